import java.util.ArrayDeque;
import java.util.ArrayList;
import java.util.Arrays;
import java.util.Collections;
import java.util.HashMap;
import java.util.HashSet;
import java.util.List;
import java.util.Map;
import java.util.Set;

/**
 * The document once more, written as plainly as can be and with nothing of the class's own form:
 * ModelTest compares the two. It is slow and makes as many objects as it likes.
 */
final class Model {
  static final int NONE = -1;
  static final int HOME = 6;

  static final class Have implements Cloneable {
    int count; boolean owner; boolean valid; int data;
    Have copy() { Have h = new Have(); h.count = count; h.owner = owner; h.valid = valid; h.data = data; return h; }
  }

  static final class Entry {
    int seq, line, what; boolean active, marked;
    Entry copy() { Entry e = new Entry(); e.seq = seq; e.line = line; e.what = what; e.active = active; e.marked = marked; return e; }
  }

  static final class MissOf {
    int line, what, v, issued, latest, began; boolean good;
    MissOf copy() {
      MissOf m = new MissOf();
      m.line = line; m.what = what; m.v = v; m.issued = issued; m.latest = latest; m.began = began; m.good = good;
      return m;
    }
  }

  record Msg(int from, int to, int kind, int line, int many, int owner, int data, int seq, int what) { }

  /** An act or a line: who (or -1), word, two numbers. */
  record Item(int who, String word, int a, int b) { }

  static final class All {
    int n = 3, t = 8, room = 4, policy = 0, patience = 6, tick = 0, state = 0;
    Have[][] have = new Have[7][8];
    Entry[][] table = new Entry[7][6];
    MissOf[] miss = new MissOf[6];
    List<List<Integer>> used = new ArrayList<>();
    int[][] hint = new int[6][8];
    List<List<Set<Integer>>> group = new ArrayList<>();
    List<Msg> row = new ArrayList<>();
    List<List<Integer>> seen = new ArrayList<>();
    List<List<Item>> programs = new ArrayList<>();
    int[] done = new int[6], rest = new int[6];
    List<Item> plan = new ArrayList<>();
    int planAt = 0;
    List<int[]> trace = new ArrayList<>();
    int[][][] flow = new int[7][7][3];
    int[][] cost = new int[6][5];
    int dropped, evictions, delivered;

    All() {
      for (int i = 0; i < 7; i++) {
        for (int l = 0; l < 8; l++) have[i][l] = new Have();
        for (int c = 0; c < 6; c++) table[i][c] = new Entry();
      }
      for (int l = 0; l < 8; l++) { have[HOME][l].count = 8; have[HOME][l].owner = true; have[HOME][l].valid = true; }
      for (int c = 0; c < 6; c++) {
        used.add(new ArrayList<>()); seen.add(new ArrayList<>()); programs.add(new ArrayList<>());
        Arrays.fill(hint[c], NONE);
        List<Set<Integer>> g = new ArrayList<>();
        for (int l = 0; l < 8; l++) g.add(new HashSet<>());
        group.add(g);
      }
    }

    All copy() {
      All o = new All();
      o.n = n; o.t = t; o.room = room; o.policy = policy; o.patience = patience; o.tick = tick; o.state = state;
      for (int i = 0; i < 7; i++) {
        for (int l = 0; l < 8; l++) o.have[i][l] = have[i][l].copy();
        for (int c = 0; c < 6; c++) o.table[i][c] = table[i][c].copy();
        for (int j = 0; j < 7; j++) o.flow[i][j] = flow[i][j].clone();
      }
      for (int c = 0; c < 6; c++) {
        o.miss[c] = miss[c] == null ? null : miss[c].copy();
        o.used.set(c, new ArrayList<>(used.get(c)));
        o.seen.set(c, new ArrayList<>(seen.get(c)));
        o.programs.set(c, new ArrayList<>(programs.get(c)));
        o.hint[c] = hint[c].clone();
        o.cost[c] = cost[c].clone();
        for (int l = 0; l < 8; l++) o.group.get(c).set(l, new HashSet<>(group.get(c).get(l)));
      }
      o.row = new ArrayList<>(row);
      o.done = done.clone(); o.rest = rest.clone();
      o.plan = new ArrayList<>(plan); o.planAt = planAt;
      o.trace = new ArrayList<>(trace);
      o.dropped = dropped; o.evictions = evictions; o.delivered = delivered;
      return o;
    }

    List<Integer> nodes() {
      List<Integer> all = new ArrayList<>();
      for (int c = 0; c < n; c++) all.add(c);
      all.add(HOME);
      return all;
    }

    void note(int what, int cpu, int line) { trace.add(new int[] {tick, what, cpu, line}); }

    void send(Msg m) {
      row.add(m);
      int[] f = flow[m.from][m.to];
      f[0]++; f[1] += m.many;
      if (m.kind == 3 && m.data != NONE) f[2]++;
    }

    boolean hit(int node, int line, int what) {
      Have h = have[node][line];
      return h.valid && (what == 1 ? h.count > 0 : h.count == t);
    }

    void use(int cpu, int line) { used.get(cpu).remove((Integer) line); used.get(cpu).add(line); }

    int act(int cpu, int line, int what, int v) {
      Have h = have[cpu][line];
      int was = h.data;
      if (what != 2 && seen.get(cpu).size() < 60) seen.get(cpu).add(was);
      if (what == 2) h.data = v;
      if (what == 3) h.data = (h.data + v) % 10000;
      use(cpu, line);
      return was;
    }

    int begin(int cpu, int line, int what, int v) {
      if (hit(cpu, line, what)) { note(0, cpu, line); cost[cpu][0]++; return act(cpu, line, what, v); }
      MissOf m = new MissOf();
      m.line = line; m.what = what; m.v = v; m.issued = 1; m.latest = tick; m.began = tick;
      miss[cpu] = m;
      note(1, cpu, line);
      ask(cpu);
      return NONE;
    }

    void ask(int cpu) {
      MissOf m = miss[cpu];
      List<Integer> whom = new ArrayList<>();
      boolean first = m.issued == 1;
      if (policy == 1) {
        int h = hint[cpu][m.line];
        if (h != NONE && h < n) whom.add(h);
      } else if (policy == 2 && first) {
        // HOME alone
      } else if (policy == 3 && first) {
        for (int c = 0; c < n; c++) if (group.get(cpu).get(m.line).contains(c)) whom.add(c);
      } else {
        for (int c = 0; c < n; c++) if (c != cpu) whom.add(c);
      }
      whom.add(HOME);
      for (int to : whom) {
        int on = 0;
        for (Msg x : row) if (x.kind == 1 || x.kind == 2) on++;
        if (on + 1 >= 61) dropped++;
        else send(new Msg(cpu, to, m.what == 1 ? 1 : 2, m.line, 0, 0, NONE, 0, 0));
      }
    }

    void give(int node, int to, int line, int many, boolean owner, boolean data) {
      Have h = have[node][line];
      send(new Msg(node, to, 3, line, many, owner ? 1 : 0, data ? h.data : NONE, 0, 0));
      h.count -= many;
      if (owner) h.owner = false;
      if (h.count == 0) {
        h.valid = false; h.data = 0;
        if (node != HOME) used.get(node).remove((Integer) line);
      }
    }

    int turn(int node, int line) {
      for (int c = 0; c < 6; c++) if (table[node][c].active && table[node][c].line == line) return c;
      return NONE;
    }

    void settle(int node, int line) {
      int turn = turn(node, line);
      if (turn == NONE || turn == node) return;
      Have h = have[node][line];
      if (h.count == 0) return;
      if (table[node][turn].what == 2) give(node, turn, line, h.count, h.owner, h.owner);
      else if (h.count > 1) give(node, turn, line, h.count - 1, h.owner, h.owner);
      else if (h.owner) give(node, turn, line, 1, true, true);
    }

    void evictIt(int cpu, int line) {
      Have h = have[cpu][line];
      evictions++;
      note(4, cpu, line);
      give(cpu, HOME, line, h.count, h.owner, h.owner);
    }

    int deliver(int k) {
      Msg m = row.remove(k);
      delivered++;
      Have h = have[m.to][m.line];
      if (m.kind <= 3 && m.to != HOME) {
        if (m.kind >= 2) hint[m.to][m.line] = m.from == HOME ? NONE : m.from;
        if (m.from != HOME) group.get(m.to).get(m.line).add(m.from);
      }
      if (m.kind == 1 || m.kind == 2) {
        if (turn(m.to, m.line) != NONE || h.count == 0) return m.kind;
        if (m.kind == 2) give(m.to, m.from, m.line, h.count, h.owner, h.owner);
        else if (h.owner && h.count > 1) give(m.to, m.from, m.line, 1, false, true);
        else if (h.owner) give(m.to, m.from, m.line, 1, true, true);
      } else if (m.kind == 3) {
        come(m, h);
      } else {
        Entry e = table[m.to][m.from];
        if (m.kind == 4 && e.seq < m.seq) {
          e.seq = m.seq; e.active = true; e.marked = false; e.line = m.line; e.what = m.what;
          settle(m.to, m.line);
        } else if (m.kind == 5 && e.seq <= m.seq) {
          e.seq = m.seq; e.active = false; e.marked = false;
          settle(m.to, m.line);
        }
      }
      return m.kind;
    }

    void come(Msg m, Have h) {
      MissOf miss = m.to == HOME ? null : this.miss[m.to];
      if (m.to != HOME && h.count == 0 && used.get(m.to).size() >= room) {
        if (miss != null && miss.line == m.line) {
          evictIt(m.to, used.get(m.to).get(0));
        } else {
          note(5, m.to, m.line);
          send(new Msg(m.to, HOME, 3, m.line, m.many, m.owner, m.data, 0, 0));
          return;
        }
      }
      if (m.to != HOME && h.count == 0) use(m.to, m.line);
      h.count += m.many;
      if (m.owner == 1) h.owner = true;
      if (m.data != NONE) { h.valid = true; h.data = m.data; }
      if (miss != null && miss.line == m.line && hit(m.to, m.line, miss.what)) ended(m.to);
      settle(m.to, m.line);
    }

    void ended(int cpu) {
      MissOf m = miss[cpu];
      act(cpu, m.line, m.what, m.v);
      miss[cpu] = null;
      note(2, cpu, m.line);
      cost[cpu][1]++; cost[cpu][2] += tick - m.began; cost[cpu][3] = Math.max(cost[cpu][3], tick - m.began);
      if (m.good) {
        table[cpu][cpu].active = false;
        for (int c = 0; c < 6; c++) {
          Entry e = table[cpu][c];
          if (c != cpu && e.active && e.line == m.line) e.marked = true;
        }
        for (int to : nodes()) if (to != cpu) send(new Msg(cpu, to, 5, m.line, 0, 0, NONE, table[cpu][cpu].seq, 0));
      }
    }

    void oneTick() {
      tick++;
      if (tick % 16 == 0) for (List<Set<Integer>> g : group) for (Set<Integer> s : g) s.clear();
      for (int c = 0; c < n; c++) {
        MissOf m = miss[c];
        if (m == null || m.good || tick - m.latest < patience) continue;
        boolean wait = false;
        for (Msg x : row) if (x.from == c && x.kind >= 4) wait = true;
        for (Entry e : table[c]) if (e.active && e.marked && e.line == m.line) wait = true;
        if (m.issued < 3) { m.issued++; m.latest = tick; note(6, c, m.line); ask(c); }
        else if (wait) { m.latest = tick; note(6, c, m.line); ask(c); }
        else forGood(c);
      }
    }

    void forGood(int c) {
      MissOf m = miss[c];
      Entry e = table[c][c];
      e.seq++; e.active = true; e.marked = false; e.line = m.line; e.what = m.what == 1 ? 1 : 2;
      note(3, c, m.line);
      cost[c][4]++;
      for (int to : nodes()) if (to != c) send(new Msg(c, to, 4, m.line, 0, 0, NONE, e.seq, e.what));
      m.good = true;
      settle(c, m.line);
    }

    int calm(int k) {
      int many = 0;
      for (int r = 0; r < k; r++) {
        int inRound = 0;
        while (!row.isEmpty() && inRound < 2000) { deliver(0); inRound++; }
        many += inRound;
        oneTick();
      }
      return many;
    }

    int draw(int m) {
      state = 1664525 * state + 1013904223;
      return (int) (((state & 0xffffffffL) >> 8) % m);
    }

    int go(int k, int order) {
      int before = 0, after = 0;
      for (int[] c : cost) before += c[1];
      for (int r = 0; r < k; r++) {
        for (int c = 0; c < n; c++) {
          if (done[c] >= programs.get(c).size() || miss[c] != null || tick < rest[c]) continue;
          Item i = programs.get(c).get(done[c]++);
          if (i.word.equals("rest")) rest[c] = tick + i.a;
          else begin(c, i.a, what(i.word), i.b);
        }
        for (int j = 0; j < 3; j++) {
          if (row.isEmpty()) break;
          deliver(order == 0 ? 0 : order == 1 ? row.size() - 1 : draw(row.size()));
        }
        oneTick();
      }
      for (int[] c : cost) after += c[1];
      return after - before;
    }

    static int what(String word) { return word.equals("load") ? 1 : word.equals("store") ? 2 : 3; }

    String key() {
      StringBuilder s = new StringBuilder();
      for (int i : nodes()) {
        for (Have h : have[i]) s.append(h.count).append(h.owner).append(h.valid).append(h.valid ? h.data : 0).append(',');
        for (Entry e : table[i]) s.append(e.seq).append(e.active).append(e.line).append(e.what).append(e.marked).append(',');
      }
      for (int c = 0; c < n; c++) {
        s.append(used.get(c));
        MissOf m = miss[c];
        if (m != null) s.append(m.line).append('.').append(m.what).append('.').append(m.v).append('.').append(m.good);
        s.append(';');
      }
      List<String> all = new ArrayList<>();
      for (Msg m : row) all.add(m.toString());
      Collections.sort(all);
      return s.append(all).toString();
    }
  }

  All a = new All();
  All image = null;
  List<Integer> tape = new ArrayList<>();
  int fault = 0, faultPlace = NONE;

  boolean cpuThere(int c) { return c >= 0 && c < a.n; }
  boolean nodeThere(int c) { return cpuThere(c) || c == HOME; }
  static boolean lineThere(int l) { return l >= 0 && l < 8; }

  int state(int v) { int was = a.state; a.state = v; return was; }

  boolean set(int what, int v) {
    boolean quiet = a.row.isEmpty();
    for (MissOf m : a.miss) quiet &= m == null;
    for (Have h : a.have[HOME]) quiet &= h.count == a.t;
    switch (what) {
      case 0: if (!quiet || v < 2 || v > 6 || v > a.t) return false; a.n = v; return true;
      case 1: if (!quiet || v < a.n || v > 12) return false; a.t = v; for (Have h : a.have[HOME]) h.count = v; return true;
      case 2: if (v < 1 || v > 8) return false; a.room = v; return true;
      case 3: if (v < 0 || v > 3) return false; a.policy = v; return true;
      case 4: if (v < 1 || v > 20) return false; a.patience = v; return true;
      default: return false;
    }
  }

  boolean ok(int cpu, int line, int v) { return cpuThere(cpu) && lineThere(line) && v >= 0 && v <= 9999 && a.miss[cpu] == null; }
  int load(int cpu, int line) { return ok(cpu, line, 0) ? a.begin(cpu, line, 1, 0) : NONE - 1; }
  int store(int cpu, int line, int v) { return ok(cpu, line, v) ? (a.begin(cpu, line, 2, v) == NONE ? 0 : 1) : NONE; }
  int add(int cpu, int line, int v) { return ok(cpu, line, v) ? (a.begin(cpu, line, 3, v) == NONE ? 0 : 1) : NONE; }

  boolean evict(int cpu, int line) {
    if (!cpuThere(cpu) || !lineThere(line) || a.have[cpu][line].count == 0) return false;
    if (a.miss[cpu] != null && a.miss[cpu].line == line) return false;
    a.evictIt(cpu, line);
    return true;
  }

  int deliver(int k) { return k < 0 || k >= a.row.size() ? NONE : a.deliver(k); }

  int tick(int n) {
    if (n < 1 || n > 99 || a.tick + n > 9999) return NONE;
    for (int i = 0; i < n; i++) a.oneTick();
    return a.tick;
  }

  int calm(int n) { return n < 1 || n > 60 || a.tick + n > 9999 ? NONE : a.calm(n); }
  int go(int n, int o) { return n < 1 || n > 60 || o < 0 || o > 2 || a.tick + n > 9999 ? NONE : a.go(n, o); }

  int feed(int... five) {
    if (tape.size() + 20 > 400) return NONE;
    for (int x : five) for (int s = 24; s >= 0; s -= 8) tape.add(x >>> s & 255);
    return tape.size();
  }

  boolean end(int n) {
    if (n < 0 || n > tape.size()) return false;
    tape = new ArrayList<>(tape.subList(0, n));
    return true;
  }

  // ---- texts: all tokens first, then a descent over them

  static final class Bad extends RuntimeException {
    final int fault, place;
    Bad(int fault, int place) { this.fault = fault; this.place = place; }
  }

  record Tok(String s, int place) { }

  List<Tok> toks;
  int at;

  static List<Tok> cut(List<Integer> tape) {
    List<Tok> all = new ArrayList<>();
    StringBuilder text = new StringBuilder();
    for (int b : tape) text.append((char) b);
    java.util.regex.Matcher m = java.util.regex.Pattern.compile("[a-zA-Z]+|[0-9]+|[^ \\n]", java.util.regex.Pattern.DOTALL).matcher(text);
    while (m.find()) all.add(new Tok(m.group(), m.start()));
    all.add(new Tok("", text.length()));
    return all;
  }

  Tok take() { return toks.get(at++); }
  void word(String w) { Tok t = take(); if (!t.s.equals(w)) throw new Bad(1, t.place); }

  int number(int low, int high) {
    Tok t = take();
    if (!t.s.matches("[0-9]{1,4}")) throw new Bad(1, t.place);
    int v = Integer.parseInt(t.s);
    if (v < low || v > high) throw new Bad(2, t.place);
    return v;
  }

  List<Item> statements(int deep) {
    List<Item> all = new ArrayList<>();
    while (true) {
      Tok t = toks.get(at);
      switch (t.s) {
        case "load": at++; all.add(new Item(NONE, "load", number(0, 7), 0)); word(";"); break;
        case "store": case "add": at++; all.add(new Item(NONE, t.s, number(0, 7), number(0, 9999))); word(";"); break;
        case "rest": at++; all.add(new Item(NONE, "rest", number(1, 9), 0)); word(";"); break;
        case "again": {
          at++;
          if (deep == 3) throw new Bad(3, t.place);
          int times = number(1, 9);
          word("{");
          List<Item> body = statements(deep + 1);
          word("}");
          for (int i = 0; i < times; i++) all.addAll(body);
          break;
        }
        default:
          if (t.s.equals("") && deep == 0 || t.s.equals("}") && deep > 0) return all;
          throw new Bad(1, t.place);
      }
    }
  }

  List<Item> planLines() {
    List<Item> all = new ArrayList<>();
    while (!toks.get(at).s.equals("")) {
      Tok t = toks.get(at);
      int who = NONE;
      String w;
      if (t.s.matches("[0-9]{1,4}")) {
        who = number(0, 5);
        if (all.size() == 24) throw new Bad(3, t.place);
        Tok next = take();
        w = next.s;
        if (!List.of("load", "store", "add", "evict").contains(w)) throw new Bad(1, next.place);
      } else {
        w = take().s;
        if (!List.of("deliver", "last", "tick", "calm", "go", "policy").contains(w)) throw new Bad(1, t.place);
        if (all.size() == 24) throw new Bad(3, t.place);
      }
      int x, y = 0;
      switch (w) {
        case "load": case "evict": x = number(0, 7); break;
        case "store": case "add": x = number(0, 7); y = number(0, 9999); break;
        case "deliver": case "last": x = number(1, 50); break;
        case "tick": x = number(1, 99); break;
        case "calm": x = number(1, 60); break;
        case "go": x = number(1, 60); y = number(0, 2); break;
        default: x = number(0, 3); break;
      }
      word(";");
      all.add(new Item(who, w, x, y));
    }
    return all;
  }

  int text(int k) {
    fault = 0; faultPlace = NONE;
    toks = cut(tape); at = 0;
    int length = tape.size();
    tape = new ArrayList<>();
    if (k < 0 || k > 6) return NONE;
    try {
      if (k == 6) { a.plan = planLines(); a.planAt = 0; return a.plan.size(); }
      List<Item> acts = statements(0);
      if (acts.size() > 200) throw new Bad(4, length);
      a.programs.set(k, acts); a.done[k] = 0;
      return acts.size();
    } catch (Bad b) { fault = b.fault; faultPlace = b.place; return NONE; }
  }

  int fault(int what) { return what == 0 ? fault : what == 1 ? faultPlace : NONE; }

  int run(int n) {
    if (n < 1 || n > 24) return NONE;
    int good = 0;
    for (int i = 0; i < n && a.planAt < a.plan.size(); i++) if (line(a.plan.get(a.planAt++))) good++;
    return good;
  }

  boolean line(Item i) {
    switch (i.word) {
      case "load": return load(i.who, i.a) != NONE - 1;
      case "store": return store(i.who, i.a, i.b) != NONE;
      case "add": return add(i.who, i.a, i.b) != NONE;
      case "evict": return evict(i.who, i.a);
      case "deliver": { boolean any = false; for (int k = 0; k < i.a; k++) any |= deliver(0) != NONE; return any; }
      case "last": { boolean any = false; for (int k = 0; k < i.a; k++) any |= deliver(a.row.size() - 1) != NONE; return any; }
      case "tick": return tick(i.a) != NONE;
      case "calm": return calm(i.a) != NONE;
      case "go": return go(i.a, i.b) != NONE;
      default: return set(3, i.a);
    }
  }

  int node(int node, int line, int what) {
    if (!nodeThere(node) || !lineThere(line)) return NONE - 1;
    Have h = a.have[node][line];
    switch (what) {
      case 0: return h.count;
      case 1: return h.owner ? 1 : 0;
      case 2: return h.valid ? 1 : 0;
      case 3: return h.valid ? h.data : NONE;
      case 4: return a.turn(node, line);
      case 5: return node == HOME ? NONE : a.hint[node][line];
      case 6: return node == HOME ? NONE : a.used.get(node).indexOf(line);
      default: return NONE - 1;
    }
  }

  int miss(int cpu, int what) {
    if (!cpuThere(cpu) || a.miss[cpu] == null || what < 0 || what > 5) return NONE;
    MissOf m = a.miss[cpu];
    return new int[] {m.line, m.what, m.v, m.issued, m.latest, m.good ? 1 : 0}[what];
  }

  int table(int node, int cpu, int what) {
    if (!nodeThere(node) || !cpuThere(cpu) || what < 0 || what > 4) return NONE;
    Entry e = a.table[node][cpu];
    return new int[] {e.seq, e.active ? 1 : 0, e.line, e.what, e.marked ? 1 : 0}[what];
  }

  int message(int i, int what) {
    if (i < 0 || i >= a.row.size() || what < 0 || what > 8) return NONE - 1;
    Msg m = a.row.get(i);
    return new int[] {m.from, m.to, m.kind, m.line, m.many, m.owner, m.data, m.seq, m.what}[what];
  }

  int seen(int cpu, int i) {
    if (!cpuThere(cpu)) return NONE;
    List<Integer> s = a.seen.get(cpu);
    return i == NONE ? s.size() : i >= 0 && i < s.size() ? s.get(i) : NONE;
  }

  int program(int k, int what) {
    if (k < 0 || k > 5) return NONE;
    return what == 0 ? a.programs.get(k).size() : what == 1 ? a.done[k] : what == 2 ? a.rest[k] : NONE;
  }

  int soon(int cpu) {
    if (!cpuThere(cpu)) return NONE;
    if (a.miss[cpu] == null) return 0;
    All b = a.copy();
    for (int r = 1; r <= 60; r++) { b.calm(1); if (b.miss[cpu] == null) return r; }
    return NONE;
  }

  int walk(int what) { return what < 0 || what > 4 ? NONE : walks()[what]; }

  /** All five answers of THE WALK. */
  int[] walks() {
    int[] tooMany = {NONE, NONE, NONE, NONE, NONE};
    Map<String, Integer> far = new HashMap<>();
    Map<String, Set<String>> next = new HashMap<>();
    ArrayDeque<All> queue = new ArrayDeque<>();
    int calm = 0, missing = 0, fewest = NONE;
    far.put(a.key(), 0);
    queue.add(a.copy());
    while (!queue.isEmpty()) {
      All s = queue.remove();
      String key = s.key();
      if (s.row.size() > 24 || far.size() > 250) return tooMany;
      if (s.row.isEmpty()) {
        calm++;
        boolean some = false;
        for (MissOf m : s.miss) some |= m != null;
        if (some) missing++;
        if (fewest == NONE) fewest = far.get(key);
      }
      Set<String> to = new HashSet<>();
      for (int k = 0; k < s.row.size(); k++) {
        All b = s.copy();
        b.deliver(k);
        String other = b.key();
        to.add(other);
        if (!far.containsKey(other)) { far.put(other, far.get(key) + 1); queue.add(b); }
      }
      next.put(key, to);
    }
    // A state from which nothing goes on is on no way back; take such away as long as there are any.
    Set<String> left = new HashSet<>(next.keySet());
    boolean changed = true;
    while (changed) {
      changed = false;
      for (String s : new ArrayList<>(left)) {
        boolean goesOn = false;
        for (String o : next.get(s)) goesOn |= left.contains(o);
        if (!goesOn) { left.remove(s); changed = true; }
      }
    }
    return new int[] {far.size(), calm, missing, fewest, left.isEmpty() ? 0 : 1};
  }

  int where(int line, int what) {
    if (!lineThere(line)) return NONE - 1;
    int owner = NONE, set = 0, writer = NONE, many = 0, onWay = 0, missing = 0, turns = 0;
    for (int i : a.nodes()) {
      Have h = a.have[i][line];
      if (h.owner) owner = i;
      if (h.count > 0) many++;
      if (a.turn(i, line) != NONE) turns++;
      if (i != HOME) {
        if (a.hit(i, line, 1)) set |= 1 << i;
        if (a.hit(i, line, 2)) writer = i;
        if (a.miss[i] != null && a.miss[i].line == line) missing |= 1 << i;
      }
    }
    for (Msg m : a.row) if (m.line == line) onWay += m.many;
    return what < 0 || what > 6 ? NONE - 1 : new int[] {owner, set, writer, many, onWay, missing, turns}[what];
  }

  int cost(int cpu, int what) { return cpu < 0 || cpu > 5 || what < 0 || what > 4 ? NONE : a.cost[cpu][what]; }

  int group(int cpu, int line) {
    if (!cpuThere(cpu) || !lineThere(line)) return NONE;
    int set = 0;
    for (int c : a.group.get(cpu).get(line)) set |= 1 << c;
    return set;
  }

  int trace(int i, int what) {
    if (i < 0 || i > 99 || i >= a.trace.size() || what < 0 || what > 3) return NONE;
    return a.trace.get(a.trace.size() - 1 - i)[what];
  }

  int flow(int x, int y, int what) { return x < 0 || x > 6 || y < 0 || y > 6 || what < 0 || what > 2 ? NONE : a.flow[x][y][what]; }

  int can(int cpu, int line) {
    if (!cpuThere(cpu) || !lineThere(line)) return NONE;
    return a.hit(cpu, line, 2) ? 2 : a.hit(cpu, line, 1) ? 1 : 0;
  }

  int worth(int line) {
    if (!lineThere(line)) return NONE;
    for (int i : a.nodes()) if (a.have[i][line].owner) return a.have[i][line].data;
    for (Msg m : a.row) if (m.line == line && m.owner == 1) return m.data;
    throw new IllegalStateException("the owner token is lost");
  }

  boolean image(boolean taken) {
    if (taken) { image = a.copy(); return true; }
    if (image == null) return false;
    a = image.copy();
    return true;
  }

  int look(int what) {
    int hits = 0, ended = 0, good = 0, onWay = 0, missing = 0;
    for (int[] c : a.cost) { hits += c[0]; ended += c[1]; good += c[4]; }
    for (Msg m : a.row) onWay += m.many;
    for (MissOf m : a.miss) if (m != null) missing++;
    int[] all = {a.n, a.t, a.room, a.policy, a.patience, a.tick, a.row.size(), a.dropped, hits, ended, good,
      a.evictions, a.delivered, onWay, a.state, missing, a.plan.size(), a.planAt, a.trace.size()};
    return what < 0 || what >= all.length ? -100000 : all[what];
  }
}
