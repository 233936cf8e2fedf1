/** Promises 1 to 5: a new object, the tape, faults, texts. */
public final class TextTests {
  private static final int NONE = WinterTellers.NONE;

  public static void main(String[] args) {
    newObject();
    tape();
    coastFaults();
    lawFaults();
    texts();
    newCoast();
    Check.end("TextTests");
  }

  private static void newObject() {
    WinterTellers x = new WinterTellers();
    int[] due = {0, 0, 0, 0, NONE, 0, 0, 0, 0, 0, 0, 2, 0, 0, 0};
    for (int i = 0; i < due.length; i++) {
      Check.due("new count " + i, x.count(i), due[i]);
    }
    for (int i = 0; i < 5; i++) {
      Check.due("new status " + i, x.status(i), 0);
    }
    Check.due("new house", x.house(0, 0), NONE);
    Check.due("new tale throws", Check.throwsNoSuch(x, 0, 0), 1);
    Check.due("new undo", x.undo(), NONE);
    Check.due("new back", x.back(), NONE);
    Check.due("new image", x.image(), NONE);
    Check.due("new seen", x.seen(0, 0, true), NONE);
  }

  private static void tape() {
    WinterTellers x = new WinterTellers();
    Check.due("nothing fed", x.feed(0, 0, 0, 0, 0), 0);
    Check.due("zeros left out", x.feed(0x68003B00, 0, 0x00680000, 0, 0x3B000074), 5);
    Check.due("they stand as told", x.fault(0), NONE);
    Check.due("end beyond", x.end(6), false);
    Check.due("end below", x.end(-1), false);
    Check.due("as it was", x.count(3), 5);
    Check.due("end at its length", x.end(5), true);
    Check.due("end at 3", x.end(3), true);
    Check.due("three bytes", x.count(3), 3);
    Check.due("fault of h;h", x.fault(0), 3);
    Check.due("goes on behind", x.feed(0x3B740000, 0, 0, 0, 0), 5);
    Check.due("whole again", x.fault(0), NONE);
    Check.due("bytes above 127", x.feed(0xE9FF8001, -1, 0, 0, 0), 13);
    Check.due("a strange byte", x.fault(0), 5);
    Check.due("end at 0", x.end(0), true);
    Check.due("nothing left", x.count(3), 0);
    for (int i = 0; i < 5; i++) {
      Check.due("each number comes, in its order", x.feed(i == 0 ? 65 : 0, i == 1 ? 65 : 0, i == 2 ? 65 : 0,
          i == 3 ? 65 : 0, i == 4 ? 65 : 0), i + 1);
    }
    WinterTellers y = new WinterTellers();
    for (int i = 0; i < 5; i++) {
      y.end(0);
      y.feed(-1, -1, -1, -1, -1);
      for (int j = 0; j < 10; j++) {
        y.feed(-1, -1, -1, -1, -1);
      }
      y.feed(-1, -1, -1, -1, 1);
      Check.due("237 and four of one number", y.feed(i == 0 ? -1 : 0, i == 1 ? -1 : 0, i == 2 ? -1 : 0,
          i == 3 ? -1 : 0, i == 4 ? -1 : 0), NONE);
    }
    y.end(0);
    for (int i = 1; i <= 12; i++) {
      Check.due("twenty more", y.feed(-1, -1, -1, -1, -1), 20 * i);
    }
    Check.due("one too many", y.feed(0, 0, 0, 0, 1), NONE);
    Check.due("none more", y.feed(0, 0, 0, 0, 0), 240);
    Check.due("end", y.end(230), true);
    Check.due("eleven are refused whole", y.feed(-1, -1, 0x01010100, 0, 0), NONE);
    Check.due("as it was", y.count(3), 230);
    Check.due("ten come", y.feed(-1, 0, -1, 0, 0x01000001), 240);
  }

  private static void coastFault(String text, int due) {
    Check.due("fault of coast '" + text + "'", Check.fault(0, text), due);
  }

  private static void coastFaults() {
    Object[] rows = {
      "", 0, " ", 1, "h", 1, "h;", 2, "h;h", 3, "h;h;t", NONE, "h;h;t;", 6, "h;h;t ", NONE, " h;h;t", NONE,
      ";h", 0, "h;;h", 2, "h h", 2, "H", 0, "y", 0, "h;h;t" + (char) 233, 5, "h;t;t;t", 7, "h;h;s", 5,
      "s;h;h;t", NONE, "h;h;s;t", NONE, "h;h;s;t;s", 8, "s;s", 2, "s ; s", 4,
      "sb", 2, "sb ", 3, "sbx", 2, "sb-1", 2, "sb1 2", 4, "sb12x", 4, "sx", 1, "sk1", 1, "sb99;h;h;t", NONE,
      "sb100", 4, "sb5b5", 3, "sb5m1b5", 5, "sb5 b", 4, "sm63;h;h;t", NONE, "sm64", 3, "sm99", 3, "sm640", 4,
      "sa5;h;h;h;h;h;h;t", NONE, "sa5;h;h;h;h;h;t", 15, "sa1;h;h;t", NONE, "sa2;h;h;t ", 10, "sa6", 2, "sa60", 3,
      "sa05;h;h", 8, "so9;h;h;t", NONE, "so10", 3, "so1o", 3,
      "hk63c9w9;h;t", NONE, "hk64", 3, "hc10", 3, "hw10", 3, "hc9 c", 4, "hw1k1c1w", 7, "hb1", 1, "hl1", 1, "hr", 1,
      "tl9k9r1;h;h", NONE, "tl0", 2, "tl00", 3, "tl05;h;h", NONE, "tl1;h;h", NONE, "tl10", 3, "tl005", 4,
      "tl999", 4, "tl0x", 2, "tl0;h;h", 2, "tk10", 3, "tk9;h;h", NONE, "tr1;h;h", NONE, "tr2", 2, "tr01;h;h", NONE,
      "tc1", 1, "tw1", 1, "tr1r0", 3, "h;h;h;h;h;h;t", NONE, "h;h;h;h;h;h;t;h", 14, "h;t;t;t;t;t;t;h", NONE,
      "h;t;t;t;t;t;t;t", 14, "h;h;t;y", 6, "h1", 1, "t;h;h;tk1l2;tr0k0l1;sb0m0a0o0", NONE,
      " s b 9 m 6 3", 11, "s b 9 m 63 ; h k 0 ; h ; t  ", NONE, "sb\t1", 2, "h;h;t\n", 5,
      "s;h;h;h;h;h;h;t;t;t;t;t;t", NONE, "s;h;h;h;h;h;h;t;t;t;t;t;t;s", 26,
    };
    for (int i = 0; i < rows.length; i += 2) {
      coastFault((String) rows[i], (Integer) rows[i + 1]);
    }
    WinterTellers x = new WinterTellers();
    Check.due("no such sort", x.fault(2), -2);
    Check.due("no such sort", x.fault(-1), -2);
    Check.due("no such sort", x.fault(Integer.MIN_VALUE), -2);
  }

  private static void lawFaults() {
    Object[] rows = {
      "", 0, " ", 1, "y", 1, "y:", 2, "y :", 3, "y:l", NONE, "y:l ", NONE, " y : l ", NONE, "x", 0, "yl", 1, "y;", 1,
      "y:l;", 4, "y:l;y", 5, "y:l;y:", 6, "y:l;y:k", NONE, "y:l;;", 4, "y:ll", 3, "y:l1", 3, "y:1l", 3,
      "y:0", NONE, "y:1234", NONE, "y:12345", 6, "y:0000", NONE, "y:00000", 6, "y:1 2", 4, "y:-1", 2, "y:+1", 2,
      "y:a", 2, "y:L", 2, "y:l?2", 3, "y:l=1", 5, "y:l=1;", 5, "y:l=1?", 6, "y:l=1?2", NONE, "y:l=1?2?", 7,
      "y:l=1?2=1", 7, "y:l=1?!", 6, "y:l=1?(", 6, "y:l==1", 4, "y:l=>1", 4, "y:l=1=1", 5, "y:l<1?2", NONE,
      "y:l>1?2", NONE, "y:l=1|k=2&c<3?1", NONE, "y:l=1|k", 7, "y:l=1|k?", 7, "y:l=1||", 6, "y:l=1&&", 6,
      "y:l|k=1", 3, "y:l&k=1", 3, "y:l=1|!k=1?1", NONE, "y:l=1&(k=1)?1", NONE, "y:!l=1?1", NONE, "y:!l?1", 4,
      "y:!1", 4, "y:!?", 3, "y:(l=1)?1", NONE, "y:(l)?1", 4, "y:(l+k)=1?1", 6, "y:(l=1", 6, "y:(l=1)", 7,
      "y:(l=1)1", 7, "y:(l=1)=1", 7, "y:(l=1)+1", 7, "y:()", 3, "y:(l=1|)", 7, "y:(l=1]", 6, "y:[l]", NONE,
      "y:[l]=1?[k]", NONE, "y:[l", 4, "y:[]", 3, "y:[l=1]", 4, "y:[l)", 4, "y:[!", 3, "y:[(", 3, "y:l+(", 4,
      "y:l=(", 4, "y:l=!", 4, "y:[[[[[[l]]]]]]", NONE, "y:[[[[[[[", 8, "y:!!!!!!l=1?1", NONE, "y:!!!!!!!", 8,
      "y:((((((l=1))))))?1", NONE, "y:(((((((", 8, "y:!!!!!(l=[1", 10, "y:!!!!!(l=1)&[1]=1?1", NONE,
      "y:!!!!!!l=[", 10, "y:!!!!!!l=1&[1]=!", 16, "y:!!!!!!(", 8, "y:((((((!", 8, "y:![[[[[1]]]]]=1?1", NONE,
      "y:![[[[[[", 8, "y:l=1?[[[[[[1]]]]]]", NONE, "y:l=1?[[[[[[[", 12, "y:[1]+[[2]]*[3]", NONE,
      "y:l+", 4, "y:l+-", 4, "y:l*k/c-n+w-r", NONE, "y:l**k", 4, "y:l)", 3, "y:1]", 3, "y:l:", 3, "y:l,", 3,
      "y : ! ( l > 1 ) ? [ k - c * 2 ] / 9 ; y : n + w - r ", NONE, "y:l=1?2;y:k>3&!n=0?4;y:5", NONE,
      "y:l=1 2", 6, "y:l = 1 ? 2 3", 12, "y:1" + (char) 128, 3, "h;h;t", 0,
    };
    for (int i = 0; i < rows.length; i += 2) {
      String text = (String) rows[i];
      Check.due("fault of law '" + text + "'", Check.fault(1, text), (Integer) rows[i + 1]);
    }
  }

  private static void texts() {
    WinterTellers x = new WinterTellers();
    Check.feed(x, "h;t");
    Check.due("no coast", x.text(0), NONE);
    Check.due("no law", x.text(1), NONE);
    Check.due("no sort", x.text(2), NONE);
    Check.due("the tape is as it was", x.count(3), 3);
    Check.due("no houses", x.count(0), 0);
    Check.feed(x, ";h");
    Check.due("a coast without coast as a law", x.text(1), NONE);
    Check.due("houses", x.text(0), 2);
    Check.due("the tape is empty", x.count(3), 0);
    Check.due("tales", x.count(1), 1);
    for (int i = 0; i < 4; i++) {
      Check.feed(x, "y:" + i);
      Check.due("law", x.text(1), i);
      Check.due("laws", x.count(2), i + 1);
      Check.due("the tape is empty", x.count(3), 0);
      Check.due("none holds", x.count(4), NONE);
    }
    Check.feed(x, "y:5");
    Check.due("a fifth law", x.text(1), NONE);
    Check.due("tape kept", x.count(3), 3);
    Check.due("no fault all the same", x.fault(1), NONE);
    Check.due("no coast", x.text(0), NONE);
    Check.due("still the coast", x.count(0), 2);
    Check.due("four laws", x.count(2), 4);
    WinterTellers y = Check.coast("h;h;h;h;h;h;t;t;t;t;t;t;sb7m42a5o3");
    int[] due = {6, 6, 0, 0, NONE, 0, 5, 42, 7, 0, 0, 2, 0, 0, 0};
    for (int i = 0; i < due.length; i++) {
      Check.due("count " + i, y.count(i), due[i]);
    }
    WinterTellers z = Check.coast("h;h;t;t");
    Check.due("bread without s", z.count(8), 20);
    Check.due("tales without s", z.count(7), 3);
    Check.due("at without s", z.count(6), 0);
    Check.due("curious without c", z.house(1, 1), 3);
    Check.due("warm without w", z.house(1, 2), 2);
    Check.due("knows nothing without k", z.house(1, 0), 0);
    Check.due("long without l", z.tale(1, 0), 4);
    Check.due("knots without k", z.tale(1, 1), 2);
    Check.due("not true without r", z.tale(1, 2), 0);
    WinterTellers w = Check.coast("sm63;hk62;hk63;t;t");
    Check.due("bits of tales that are not told", w.count(7), 3);
    Check.due("bits of tales that are not told", w.house(0, 0), 2);
    Check.due("bits of tales that are not told", w.house(1, 0), 3);
  }

  private static void newCoast() {
    WinterTellers x = Check.coast("sb30;h;hw7;tl9;t");
    Check.law(x, "y:7");
    x.whys(5);
    x.tells(9);
    x.tells(0);
    x.goes(1);
    x.ties(1);
    x.seen(0, 1, true);
    x.image();
    Check.due("acts", x.count(14), 3);
    Check.due("log", x.count(13), 1);
    Check.tell(x, "sa2m2;h;h;h;t;t;t");
    int[] due = {3, 3, 1, 0, 0, 0, 2, 2, 20, 0, 0, 5, 0, 0, 0};
    for (int i = 0; i < due.length; i++) {
      Check.due("count of the new coast " + i, x.count(i), due[i]);
    }
    Check.due("the status stays", x.status(0), 1);
    Check.due("no act to undo", x.undo(), NONE);
    Check.due("no image of this coast", x.back(), NONE);
    Check.due("knots as told", x.tale(1, 1), 2);
    Check.due("nothing heard", x.heard(0, 0), 0);
    Check.due("the law holds still", x.nights(2, 2), 7);
    Check.due("no log", x.log(0, 0), NONE);
  }
}
