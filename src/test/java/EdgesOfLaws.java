/** The terms' first part, of laws: how they are told, where they are at fault, what a tale is worth by them. */
final class EdgesOfLaws {
  private static final int NONE = WinterTellers.NONE;
  private static final String SIX = "l k c n w r";

  private EdgesOfLaws() {}

  static void run() {
    howMany();
    clauses();
    conditions();
    sums();
    atoms();
    depth();
    blanksAndEnds();
    bounds();
    division();
    worths();
    longLaws();
  }

  private static void fault(String text, int due) {
    Check.due("fault of law '" + text + "'", Check.fault(1, text), due);
    WinterTellers x = new WinterTellers();
    Check.feed(x, text);
    Check.due("whether law '" + text + "' is taken", x.text(1), due == NONE ? 0 : NONE);
  }

  /** In house 0 (c 8, w 6, knows tale 1) of tale 1: l 3, k 5, n 1, r 1. */
  private static void worth(String law, int due) {
    WinterTellers x = Check.coast("hk2c8w6;h;tl7k4;tl3k5r1");
    Check.law(x, law);
    Check.due("nights by law " + law, x.nights(0, 1), due);
  }

  private static void howMany() {
    Edge.term(1, "LAWS (4 at most) are TEXTS");
    WinterTellers x = Check.coast("h;h;t");
    for (int i = 0; i < 4; i++) {
      Check.feed(x, "y:" + (11 + i));
      Check.due("law", x.text(1), i);
    }
    Check.feed(x, "y:19");
    Check.due("a fifth one", x.text(1), NONE);
    Check.due("four", x.count(2), 4);
    for (int i = 0; i < 4; i++) {
      Check.due("holds", x.law(i), true);
      Check.due("each is as it was told", x.nights(0, 0), 11 + i);
    }
    Check.due("no fifth one", x.law(4), false);
  }

  private static void clauses() {
    Edge.term(1, "CLAUSES with ; between, one at least: y, : , perhaps CONDITION ?, then SUM.");
    fault("", 0);
    fault("y:1", NONE);
    fault("y:1;y:2", NONE);
    fault(";y:1", 0);
    fault("y:1;", 4);
    fault("y:1;;y:2", 4);
    fault("y:1y:2", 3);
    fault("y1", 1);
    fault("y", 1);
    fault("y:", 2);
    fault("y:;", 2);
    fault("y::1", 2);
    fault(":1", 0);
    fault("h;h;t", 0);
    fault("y:?1", 2);
    fault("y:1?1", 3);
    fault("y:1=1?", 6);
    fault("y:1=1?;", 6);
    fault("y:1=1", 5);
    fault("y:1=1;y:2", 5);
    fault("y:1=1?2", NONE);
    fault("y:1=1?2?3", 7);
    fault("y:1=1?2=2?3", 7);
    fault("y:1;y:1=1", 9);
    fault("y:1;y:1=1?2", NONE);
    Edge.term(1, "(A CLAUSE that goes on with ! or ( behind its : has a CONDITION.)");
    fault("y:(1)", 4);
    fault("y:(1+1)*2", 6);
    fault("y:(1=1)", 7);
    fault("y:(1=1)?1", NONE);
    fault("y:!1", 4);
    fault("y:!1=1", 6);
    fault("y:!1=1?1", NONE);
    fault("y:1=1?(2)", 6);
    fault("y:1=1?!2=2", 6);
    fault("y:1=1?2;y:(1", 12);
  }

  private static void conditions() {
    Edge.term(1, "CONDITION: TRUTHS with | between");
    fault("y:1=1|2=2?3", NONE);
    fault("y:|1=1?3", 2);
    fault("y:1=1|?3", 6);
    fault("y:1=1||2=2?3", 6);
    fault("y:1=1|2?3", 7);
    worth("y:1=2|1=1?9", 9);
    worth("y:1=1|1=2?9", 9);
    worth("y:1=2|1=2?9", 0);
    worth("y:1=2|1=2|1=1?9", 9);
    Edge.term(1, "TRUTH: UNITS with & between");
    fault("y:1=1&2=2?3", NONE);
    fault("y:&1=1?3", 2);
    fault("y:1=1&?3", 6);
    fault("y:1=1&&2=2?3", 6);
    fault("y:1&2=2?3", 3);
    worth("y:1=2&1=1?9", 0);
    worth("y:1=1&1=2?9", 0);
    worth("y:1=1&1=1?9", 9);
    worth("y:1=1&1=1&1=2?9", 0);
    worth("y:1=1|1=1&1=2?9", 9);
    worth("y:1=2&1=1|1=1?9", 9);
    worth("y:1=2&(1=1|1=1)?9", 0);
    Edge.term(1, "UNIT: ! UNIT, ( CONDITION ), or SUM, one of = < >, SUM.");
    fault("y:!?1", 3);
    fault("y:!(1=1)?1", NONE);
    fault("y:(!1=1)?1", NONE);
    fault("y:(1=1?1", 6);
    fault("y:(1=1]?1", 6);
    fault("y:1=1)?1", 5);
    fault("y:()?1", 3);
    fault("y:1=?1", 4);
    fault("y:=1?1", 2);
    fault("y:1==1?1", 4);
    fault("y:1<=1?1", 4);
    fault("y:1<>1?1", 4);
    fault("y:1=1=1?1", 5);
    fault("y:1=!1?1", 4);
    fault("y:1=(1)?1", 4);
    fault("y:!1l?1", 4);
    fault("y:!1 2=3?1", 5);
    fault("y:!1[2]=3?1", 4);
    fault("y:(1l)?1", 4);
    fault("y:1=1&2l?1", 7);
    fault("y:1=1|k[3]?1", 7);
    worth("y:!1=1&1=2?9;y:4", 4);
    worth("y:!1=2&1=1?9;y:4", 9);
    worth("y:!(1=2&1=1)?9;y:4", 9);
    worth("y:!(1=1&1=1)?9;y:4", 4);
    worth("y:!!1=1?9;y:4", 9);
    int[][] pairs = {{4, 5}, {5, 5}, {6, 5}};
    for (int[] pair : pairs) {
      String both = pair[0] + "%" + pair[1] + "?9";
      worth("y:" + both.replace('%', '='), pair[0] == pair[1] ? 9 : 0);
      worth("y:" + both.replace('%', '<'), pair[0] < pair[1] ? 9 : 0);
      worth("y:" + both.replace('%', '>'), pair[0] > pair[1] ? 9 : 0);
    }
    worth("y:0-1<0?9", 9);
    worth("y:0>0-1?9", 9);
    worth("y:1+2=3*1?9", 9);
  }

  private static void sums() {
    Edge.term(1, "SUM: TERMS with + or - between");
    fault("y:1+2-3", NONE);
    fault("y:+1", 2);
    fault("y:-1", 2);
    fault("y:1+", 4);
    fault("y:1-", 4);
    fault("y:1++1", 4);
    fault("y:1--1", 4);
    worth("y:9-4-3", 2);
    worth("y:9-4+3", 8);
    Edge.term(1, "TERM: ATOMS with * or / between");
    fault("y:1*2/3", NONE);
    fault("y:*1", 2);
    fault("y:/1", 2);
    fault("y:1*", 4);
    fault("y:1/", 4);
    fault("y:1**1", 4);
    fault("y:1+*1", 4);
    worth("y:2+3*4", 14);
    worth("y:3*4-2", 10);
    worth("y:16/4/2", 2);
    worth("y:16/4*2", 8);
    worth("y:7/2*2", 6);
  }

  private static void atoms() {
    Edge.term(1, "ATOM: a number (1 to 4 digits)");
    fault("y:0", NONE);
    fault("y:12", NONE);
    fault("y:123", NONE);
    fault("y:1234", NONE);
    fault("y:9999", NONE);
    fault("y:0000", NONE);
    fault("y:12345", 6);
    fault("y:00000", 6);
    fault("y:1+99999", 8);
    worth("y:0007", 7);
    worth("y:9999-9983", 16);
    worth("y:1000-999", 1);
    Edge.term(1, "a letter (l k c n w r)");
    for (char sign = 1; sign < 256; sign++) {
      String goesOn = " [!(0123456789";
      boolean ends = SIX.indexOf(sign) >= 0 && sign != ' ' || sign >= '0' && sign <= '9';
      fault("y:" + sign, ends ? NONE : goesOn.indexOf(sign) >= 0 ? 3 : 2);
    }
    fault("y:lk", 3);
    fault("y:l1", 3);
    fault("y:1l", 3);
    Edge.term(1, "[ SUM ]");
    fault("y:[1]", NONE);
    fault("y:[]", 3);
    fault("y:[1", 4);
    fault("y:[1)", 4);
    fault("y:1]", 3);
    fault("y:[1=1]", 4);
    fault("y:[(1)]", 3);
    fault("y:[!1]", 3);
    fault("y:[1][2]", 5);
    fault("y:[1]=[1]?[2]", NONE);
    worth("y:9-[4-3]", 8);
    worth("y:[2+3]*4", 20);
    worth("y:16/[4/2]", 8);
  }

  private static String nested(String opening, String inner) {
    StringBuilder text = new StringBuilder(opening).append(inner);
    for (int i = opening.length() - 1; i >= 0; i--) {
      char sign = opening.charAt(i);
      text.append(sign == '[' ? "]" : sign == '(' ? ")" : "");
    }
    return text.toString();
  }

  private static void depth() {
    Edge.term(1, "At most six of ( [ ! within one another.");
    for (int depth = 1; depth <= 6; depth++) {
      fault("y:" + nested("[".repeat(depth), "1"), NONE);
      fault("y:" + nested("(".repeat(depth), "1=1") + "?1", NONE);
      fault("y:" + nested("!".repeat(depth), "1=1") + "?1", NONE);
    }
    worth("y:" + nested("[[[[[[", "l+4"), 7);
    worth("y:" + nested("((((((", "l=3") + "?9", 9);
    worth("y:!!!!!!l=3?9", 9);
    worth("y:!!!!!l=3?9", 0);
    Edge.term(1, "a seventh of ( [ ! at it.");
    String[] six = {"((((((", "!!!!!!", "(!(!(!", "!(!(!(", "((!!((", "!((((!"};
    for (String opening : six) {
      fault("y:" + nested(opening, "1=1") + "?1", NONE);
      fault("y:" + opening + "(", 8);
      fault("y:" + opening + "!", 8);
      fault("y:" + opening + "[", 8);
      fault("y:" + opening + "1=[", 10);
      // A ! ends with its unit, a ( does not.
      int behind = opening.endsWith("(") ? 12 : 13;
      fault("y:" + opening + "1=1&[", behind);
      fault("y:" + opening + "1=1&(", behind);
    }
    fault("y:[[[[[[[", 8);
    fault("y:[[[[[[(", 8);
    fault("y:1+[[[[[[[", 10);
    fault("y:1=1?[[[[[[[", 12);
    fault("y:1=1?" + nested("[[[[[[", "1"), NONE);
    fault("y:((([[[[", 8);
    fault("y:((([[[1]]]=1)))?1", NONE);
    fault("y:((([[[1]]]=[[[[", 16);
    fault("y:!([!", 5);
    fault("y:" + nested("((((((", "1=1") + "&((((((", 24);
    fault("y:" + nested("((((((", "1=1") + "&" + nested("((((((", "1=1") + "?1", NONE);
    fault("y:" + nested("[[[[[[", "1") + "*" + nested("[[[[[[", "1") + "=" + nested("[[[[[[", "1") + "?1", NONE);
    fault("y:!!!!!!1=1&!!!!!!1=1|!!!!!!1=1?1", NONE);
    fault("y:!!!!!!1=1&!!!!!!!", 18);
    fault("y:!!!!!!1=1&[", 13);
    fault("y:!!!!!!1=1&[1]=1?1", NONE);
    fault("y:(!!!!!1=1|[[[[[1]]]]]=1)?1", NONE);
    fault("y:(!!!!!1=1|[[[[[[", 17);
  }

  private static void blanksAndEnds() {
    Edge.term(1, "Blanks (32) may stand between all signs of both, not within numbers.");
    String plain = "y:!(l>12)&k=3|[c]<n?2*w-r/4+[7];y:9999";
    for (int i = 0; i <= plain.length(); i++) {
      boolean within = i > 0 && i < plain.length() && Character.isDigit(plain.charAt(i - 1)) && Character.isDigit(plain.charAt(i));
      fault(plain.substring(0, i) + " " + plain.substring(i), within ? i + 1 : NONE);
      fault(plain.substring(0, i) + "   " + plain.substring(i), within ? i + 3 : NONE);
      fault(plain.substring(0, i) + "\t" + plain.substring(i), i);
    }
    fault("  y  :  1  +  2  ;  y  :  l  =  1  ?  [  k  ]  ", NONE);
    Edge.term(1, "(the length, if it ends too early");
    fault(" ", 1);
    fault("y ", 2);
    fault("y: ", 3);
    fault("y:1=1 ", 6);
    fault("y:1=1? ", 7);
    fault("y:1+ ", 5);
    fault("y:[1 ", 5);
    fault("y:(1=1 ", 7);
    fault("y:1; ", 5);
    Edge.term(1, "(a fifth one in a LAW) itself, whatever stands ahead of it");
    fault("y:99999", 6);
    fault("y:[[[12345", 9);
    fault("y:1=1?00001", 10);
    fault("y: 12345", 7);
    fault("y:1234 5", 7);
    fault("y:123456789", 6);
  }

  private static void bounds() {
    Edge.term(1, "Behind each sign numbers are within -1,000,000 .. 1,000,000");
    // 999,900 is 9999*100: what is left of a million is seen behind it.
    worth("y:1000*1000-9999*100-90", 10);
    worth("y:1000*1000-1-9999*100-90", 9);
    worth("y:1000*1000+1-9999*100-90", 10);
    worth("y:1000*1000+9999-9999*100-90", 10);
    worth("y:1001*1000-9999*100-90", 10);
    worth("y:9999*9999-9999*100-90", 10);
    worth("y:9999*9999*9999*9999*9999-9999*100-90", 10);
    worth("y:0-1000*1000+9999*100+110", 10);
    worth("y:0-1000*1000+1+9999*100+110", 11);
    worth("y:0-1000*1000-1+9999*100+110", 10);
    worth("y:0-9999*9999-9999+9999*100+110", 10);
    worth("y:[0-1001]*1000+9999*100+110", 10);
    worth("y:[0-9999]*9999+9999*100+110", 10);
    worth("y:9999*[0-9999]*9999+9999*100+110", 10);
    worth("y:[0-9999]*[0-9999]-9999*100-90", 10);
    worth("y:9999*9999=1000*1000?9", 9);
    worth("y:9999*9999>1000*1000?9", 0);
    worth("y:[0-9999*9999]<[0-1000*1000]?9", 0);
    worth("y:[0-9999*9999]=[0-1000*1000]?9", 9);
    worth("y:9999*9999/9999-99", 1);
    worth("y:[1000*1000-1]/9999*2-190", 10);
  }

  private static void division() {
    Edge.term(1, "/ cuts towards 0, by 0 gives 0.");
    worth("y:7/2", 3);
    worth("y:[0-7]/2+9", 6);
    worth("y:7/[0-2]+9", 6);
    worth("y:[0-7]/[0-2]", 3);
    worth("y:1/2", 0);
    worth("y:[0-1]/2+9", 9);
    worth("y:7/0+9", 9);
    worth("y:0/0+9", 9);
    worth("y:[0-7]/0+9", 9);
    worth("y:7/[n-1]+9", 9);
    worth("y:7/0/0+9", 9);
    worth("y:9999*9999/0+4", 4);
    worth("y:1=7/0?9;y:4", 4);
    worth("y:0=7/0?9;y:4", 9);
  }

  private static void worths() {
    Edge.term(1, "WORTH: the SUM of the first CLAUSE whose CONDITION holds (or has none), 0 without.");
    worth("y:1=2?9", 0);
    worth("y:1=2?9;y:1=2?8", 0);
    worth("y:1=2?9;y:7", 7);
    worth("y:1=1?9;y:7", 9);
    worth("y:9;y:7", 9);
    worth("y:1=2?9;y:1=1?8;y:1=1?7;y:6", 8);
    worth("y:1=2?9;y:1=2?8;y:1=1?7;y:6", 7);
    worth("y:1=1?0;y:6", 0);
    worth("y:1=1?0-3;y:6", 0);
    worth("y:1=2?9;y:(1=2)?8;y:!1=1?7;y:5;y:6", 5);
  }

  /** Laws as long as the tape: all of them is weighed. */
  private static void longLaws() {
    Edge.term(1, "LAWS (4 at most) are TEXTS", "CLAUSES with ; between, one at least");
    WinterTellers x = Check.coast("hk2c8w6;h;tl7k4;tl3k5r1");
    String ones = "y:0" + "+1-1".repeat(58) + "+l+1";
    Check.due("its length", ones.length(), 239);
    for (int i = 0; i < 4; i++) {
      Check.due("fed", Check.feed(x, ones + i), 240);
      Check.due("the whole tape is a law", x.fault(1), NONE);
      Check.due("law", x.text(1), i);
    }
    for (int i = 0; i < 4; i++) {
      x.law(i);
      Check.due("nights by the last sign of all", x.nights(0, 1), 13 + i);
    }
    WinterTellers y = Check.coast("hk2c8w6;h;tl7k4;tl3k5r1");
    for (int i = 0; i < 4; i++) {
      String clauses = "y:1=2?1;".repeat(29) + "y:l*2+" + i;
      Check.feed(y, clauses);
      Check.due("clauses up to the end of the tape", y.fault(1), NONE);
      Check.due("law", y.text(1), i);
    }
    for (int i = 0; i < 4; i++) {
      y.law(i);
      Check.due("nights by the last clause", y.nights(0, 1), 6 + i);
    }
    fault("y:" + "1+".repeat(119), 240);
    fault("y:" + "1".repeat(4) + "+1".repeat(117), NONE);
    fault(" ".repeat(237) + "y:1", NONE);
    fault(" ".repeat(238) + "y:", 240);
  }
}
