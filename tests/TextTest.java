import java.util.Random;

/** Texts of all sorts, most of them with a FAULT: what text() and fault() answer, against the Model. */
public final class TextTest {
  private static final String[] PROGRAM = {"load 1;", "store 2 33;", "add 0 9999;", "rest 4;", "again 3 {", "again 9{", "}", "}", "again 1 { load 7; }", "again 5{again 8{again 5{load 2;}}}", "again 9{again 9{add 1 1;}}"};
  private static final String[] PLAN = {"0 load 1;", "5 store 7 9999;", "2 add 3 0;", "1 evict 2;", "deliver 50;", "last 1;", "tick 99;", "calm 60;", "go 60 2;", "policy 3;"};
  private static final String[] ODD = {"load", "store", "add", "rest", "again", "evict", "deliver", "last", "tick", "calm", "go", "policy", "LOAD", "loadx", "x",
    "0", "1", "5", "6", "7", "8", "9", "10", "50", "51", "60", "61", "99", "100", "9999", "10000", "00001", "0001", ";", "{", "}", "-", ".", "\t", "\r", "\0", "\u0080", "\u00ff"};
  private static final String[] BLANKS = {"", "", " ", "\n", "  ", " \n "};

  private static String any(Random r, String[] from) { return from[r.nextInt(from.length)]; }

  private static String make(Random r) {
    StringBuilder s = new StringBuilder();
    String[] whole = r.nextBoolean() ? PROGRAM : PLAN;
    int many = r.nextInt(r.nextInt(4) == 0 ? 40 : 8);
    int odds = r.nextInt(4) == 0 ? 2 : 20;
    for (int i = 0; i < many; i++) s.append(r.nextInt(odds) == 0 ? any(r, ODD) : any(r, whole)).append(any(r, BLANKS));
    return s.length() > 400 ? s.substring(0, 400) : s.toString();
  }

  public static void main(String[] args) {
    Random r = new Random(5);
    int good = 0;
    int[] faults = new int[5];
    for (int i = 0; i < 2000; i++) {
      CountedTokens x = new CountedTokens();
      Model y = new Model();
      for (int j = 0; j < 40; j++) {
        String s = make(r);
        int k = r.nextInt(5) == 0 ? r.nextInt(10) - 1 : r.nextBoolean() ? 6 : r.nextInt(6);
        Due.feed(x, s);
        for (int c = 0; c < s.length(); c++) y.tape.add((int) s.charAt(c));
        int due = y.text(k);
        Due.due(13, "text(" + k + ") of <" + s + ">", x.text(k), due);
        for (int w = 0; w < 2; w++) Due.due(15, "fault(" + w + ") of <" + s + ">", x.fault(w), y.fault(w));
        if (due > 0) good++;
        faults[y.fault(0)]++;
      }
      for (int c = 0; c < 6; c++) Due.due(22, "program", x.program(c, 0), y.program(c, 0));
      Due.due(16, "go", x.go(60, 0), y.go(60, 0));
      Due.due(14, "run", x.run(24), y.run(24));
      for (int c = 0; c < 3; c++) for (int n = -1; n < 61; n++) Due.due(21, "seen", x.seen(c, n), y.seen(c, n));
      for (int w = 0; w < 19; w++) Due.due(33, "look", x.look(w), y.look(w));
    }
    for (int f = 1; f < 5; f++) Due.due(15, "FAULT " + f + " came up", faults[f] > 50, true);
    Due.due(13, "texts without one came up", good > 1000, true);
    Due.close("TextTest");
  }
}
