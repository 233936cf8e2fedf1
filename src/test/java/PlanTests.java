/** Promises 22 to 37: all that is asked apart from acts. */
public final class PlanTests {
  private static final int NONE = WinterTellers.NONE;
  private static final int HIDDEN = WinterTellers.HIDDEN;
  /** Nights: {13, 20, 4}, {10, 20, 6}, {5, 20, 7}. */
  private static final String COAST = "sb10m3;hk4c9w5;hc0w4;hk1;tl5k3r1;tl9k9r1;t";
  private static final int[] WRONG = {Integer.MIN_VALUE, -2, 6, 7, Integer.MAX_VALUE};

  public static void main(String[] args) {
    best();
    two();
    twoAndBread();
    places();
    fewest();
    told();
    ask();
    game();
    rests();
    odds();
    reach();
    shares();
    freshAndWhere();
    round();
    most();
    Check.end("PlanTests");
  }

  private static void best() {
    WinterTellers x = Check.coast(COAST);
    Check.due("tale", x.best(2, 0), 1);
    Check.due("how many", x.best(2, 1), 20);
    Check.law(x, "y:4");
    Check.due("of several the lowest", x.best(1, 0), 0);
    Check.due("how many", x.best(1, 1), 4);
    Check.due("no such what", x.best(0, 2), NONE);
    Check.due("no such what", x.best(0, -1), NONE);
    Check.due("no such house", x.best(3, 0), NONE);
    Check.due("no such house", x.best(-1, 0), NONE);
    WinterTellers y = Check.coast("sm0;h;h;t");
    Check.due("he has none", y.best(0, 0), NONE);
    Check.due("he has none", y.best(0, 1), NONE);
    WinterTellers z = Check.coast("sm4;h;h;t;t;t");
    Check.law(z, "y:0");
    Check.due("only what he has", z.best(0, 0), 2);
    Check.due("no nights", z.best(0, 1), 0);
  }

  private static void two() {
    WinterTellers x = Check.coast(COAST);
    Check.due("row", x.two(0), 111);
    Check.due("how many", x.two(1), 40);
    Check.due("no such what", x.two(2), NONE);
    Check.due("no such what", x.two(-1), NONE);
    Check.due("nothing is done", x.count(5) + x.count(6) + x.count(13) + x.count(14), 0);
    WinterTellers none = Check.coast("sm0;h;h;t");
    Check.due("there is none", none.two(0), NONE);
    Check.due("there is none", none.two(1), NONE);
    WinterTellers again = Check.coast("sb0;h;h;t");
    Check.law(again, "y:n+3");
    Check.due("twice the same", again.two(0), 0);
    Check.due("heard once more then", again.two(1), 7);
    WinterTellers zero = Check.coast("sb0a1m2;h;h;t;t");
    Check.law(zero, "y:0");
    Check.due("no nights is a row, too", zero.two(0), 1111);
    Check.due("none", zero.two(1), 0);
  }

  private static void twoAndBread() {
    WinterTellers fed = Check.coast("sb0;h;h;hc9;t");
    Check.law(fed, "y:c=9?20;y:n=0?6;y:0");
    Check.due("six nights feed him for two houses", fed.two(0), 20);
    Check.due("how many", fed.two(1), 26);
    WinterTellers hungry = Check.coast("sb0;h;h;hc9;t");
    Check.law(hungry, "y:c=9?20;y:n=0?5;y:0");
    Check.due("five only for one", hungry.two(0), 10);
    Check.due("how many", hungry.two(1), 10);
    WinterTellers ahead = Check.coast("sb1;h;hc9;hc8;t");
    Check.law(ahead, "y:c=9?2;y:c=8?9;y:0");
    Check.due("nothing is left behind the first", ahead.two(0), 1010);
    Check.due("how many", ahead.two(1), 4);
    WinterTellers out = Check.coast("sb1;h;hc9;t");
    Check.law(out, "y:c=9&n=0?5;y:0");
    Check.due("put out first he has no bread to go on", out.two(0), 1000);
    Check.due("how many", out.two(1), 5);
    WinterTellers out2 = Check.coast("sb2;h;hc9;t");
    Check.law(out2, "y:c=9&n=0?5;y:0");
    Check.due("with one more he has", out2.two(0), 10);
    WinterTellers back = Check.coast("sb2a1;hc9;h;h;t");
    Check.law(back, "y:c=9?3;y:n=0?1;y:0");
    Check.due("there and where he was", back.two(0), 0);
    Check.due("how many", back.two(1), 6);
  }

  private static void places() {
    WinterTellers x = Check.coast(COAST);
    Check.due("row", x.places(0), 19);
    Check.due("how many", x.places(1), 33);
    Check.due("no such what", x.places(2), NONE);
    Check.due("no such what", x.places(-1), NONE);
    WinterTellers none = Check.coast("sm0;h;h;h;t");
    Check.due("none has one", none.places(0), 999);
    Check.due("no nights", none.places(1), 0);
    WinterTellers same = Check.coast("h;h;h;h;h;h;t;t;t;t;t;t");
    Check.due("of several the least row", same.places(0), 12345);
    Check.due("how many", same.places(1), 42);
    Check.law(same, "y:0");
    Check.due("no nights", same.places(0), 12345);
    Check.due("no nights", same.places(1), 0);
    WinterTellers one = Check.coast("sm2;hc0;hc9;hc9;t;t");
    Check.due("one tale, the first of the best houses", one.places(0), 919);
    Check.due("how many", one.places(1), 9);
  }

  private static void fewest() {
    WinterTellers x = Check.coast("sm0;hc1w9;hc2;hc3;t;tk1;tk3;tk4");
    Check.law(x, "y:k=2&c<3?5;y:k=1&c>2?6;y:k=3&c>1?7;y:k=4&c=1|k=4&c=3?9;y:w=9?3;y:2");
    Check.due("all", x.fewest(2), 1);
    Check.due("two: 0 with 1", x.fewest(5), 3);
    Check.due("two: 2 with 3", x.fewest(7), 12);
    Check.due("by none", x.fewest(8), NONE);
    Check.due("by none", x.fewest(20), NONE);
    Check.due("one night", x.fewest(1), 1);
    Check.due("twenty nights", Check.coast(COAST).fewest(20), 2);
    WinterTellers all = Check.coast("hc0;hc1;hc2;hc3;hc4;hc5;tk0;tk1;tk2;tk3;tk4;tk5");
    Check.law(all, "y:c=k?9;y:0");
    Check.due("each house wants its own", all.fewest(9), 63);
    Check.due("the way back is as long as the coast", all.round(0), 11);
    Check.due("to each house its own", all.places(0), 12345);
    Check.due("nights", all.places(1), 54);
    Check.due("one of six is told", all.ask(9), 0);
    Check.law(all, "y:c=k+1?9;y:0");
    Check.due("the first house by any, then each its own", all.places(0), 501234);
    Check.due("nights", all.places(1), 45);
    Check.due("the first house by none", all.fewest(9), NONE);
    Check.due("out of bounds", x.fewest(0), NONE);
    Check.due("out of bounds", x.fewest(21), NONE);
    Check.due("out of bounds", x.fewest(-1), NONE);
  }

  private static void told() {
    WinterTellers x = Check.coast(COAST);
    Check.due("all", x.told(NONE), 3);
    Check.due("the first", x.told(0), 0);
    Check.due("the third", x.told(2), 2);
    Check.due("no fourth", x.told(3), NONE);
    Check.due("no such", x.told(-2), NONE);
    x.tells(0);
    x.ties(0);
    Check.due("seen", x.seen(0, 13, true), 1);
    Check.due("as told, not as now", x.told(NONE), 2);
    Check.due("the first", x.told(0), 0);
    Check.due("the second", x.told(1), 1);
    Check.due("seen", x.seen(2, 6, false), 2);
    Check.due("one", x.told(NONE), 1);
    Check.due("that", x.told(0), 0);
    Check.due("no other", x.told(1), NONE);
    Check.due("seen", x.seen(1, 11, true), 3);
    Check.due("nothing fits", x.told(NONE), 0);
    Check.due("nothing", x.told(0), NONE);
    Check.law(x, "y:6+6*c+n*0");
    Check.due("by the law that holds", x.told(NONE), 0);
    Check.due("no house", x.seen(3, 0, true), NONE);
    Check.due("no house", x.seen(-1, 0, true), NONE);
    Check.due("out of bounds", x.seen(0, -1, true), NONE);
    Check.due("out of bounds", x.seen(0, 21, true), NONE);
    for (int i = 4; i <= 10; i++) {
      Check.due("seen", x.seen(0, i == 4 ? 0 : 20, i == 4), i);
    }
    Check.due("ten", x.seen(0, 0, true), NONE);
    Check.due("ten", x.count(12), 10);
  }

  private static void ask() {
    WinterTellers x = Check.coast("hc1;hc2;hk1c3;t;tk1;tk3;tk4");
    Check.law(x, "y:c=1?9;y:c=2&k<2?3;y:c=2?8;y:n=1?9;y:k=1?9;y:3");
    Check.due("two and two in the third", x.ask(9), 2);
    Check.due("of several the lowest", x.ask(0), 0);
    Check.due("of several the lowest", x.ask(10), 0);
    Check.due("three to one in the second", x.ask(8), 2);
    Check.due("20", x.ask(20), 0);
    x.tells(1);
    x.seen(2, 9, true);
    Check.due("two are left", x.told(NONE), 2);
    Check.due("one and one in the second", x.ask(8), 1);
    Check.due("out of bounds", x.ask(21), NONE);
    Check.due("out of bounds", x.ask(-1), NONE);
    x.seen(0, 10, true);
    Check.due("nothing fits", x.ask(8), NONE);
  }

  private static void game() {
    WinterTellers x = Check.coast(COAST);
    Check.due("fewer nights", x.game(0, 0, 1, 0), 10);
    Check.due("more nights", x.game(0, 0, 1, 1), 20);
    Check.due("he need not have it", x.game(1, 2, 0, 0), 3);
    Check.due("more", x.game(1, 2, 0, 1), 10);
    Check.due("the same: the first", x.game(0, 0, 0, 0), 13);
    Check.due("the same: the second, heard once more", x.game(0, 0, 0, 1), 4);
    Check.due("no such tale", x.game(0, 3, 2, 0), -8);
    Check.due("the other", x.game(0, 3, 2, 1), 4);
    Check.due("no such second", x.game(0, 2, 5, 1), -8);
    Check.due("neither", x.game(0, 4, 5, 0), -5);
    Check.due("neither", x.game(0, 5, 5, 1), -5);
    Check.due("nothing is done", x.heard(0, 0), 0);
    for (int i : WRONG) {
      Check.due("no house", x.game(i, 0, 0, 0), HIDDEN);
      Check.due("x", x.game(0, i, 0, 0), HIDDEN);
      Check.due("y", x.game(0, 0, i, 0), HIDDEN);
      Check.due("what", x.game(0, 0, 0, i), HIDDEN);
    }
    Check.due("x", x.game(0, -1, 0, 0), HIDDEN);
    Check.due("y", x.game(0, 0, -1, 0), HIDDEN);
    Check.due("what", x.game(0, 0, 0, -1), HIDDEN);
    Check.due("no house", x.game(3, 0, 0, 0), HIDDEN);
    Check.due("what", x.game(0, 0, 0, 2), HIDDEN);
    Check.law(x, "y:n=0?0;y:5");
    Check.due("no nights against five", x.game(1, 0, 0, 0), -3);
    Check.due("five", x.game(1, 0, 0, 1), 5);
    Check.due("as many", x.game(1, 0, 1, 0), 0);
  }

  private static void rests() {
    WinterTellers x = Check.coast("hc9;h;t;t;t");
    Check.law(x, "y:n=0?5;y:2");
    int[] due = {1, 2, 10, 12, 20, 21};
    Check.due("how many", x.rests(0, NONE), due.length);
    for (int i = 0; i < due.length; i++) {
      Check.due("rest " + i, x.rests(0, i), due[i]);
    }
    Check.due("no more", x.rests(0, due.length), NONE);
    Check.due("no such", x.rests(0, -2), NONE);
    Check.due("no house", x.rests(2, NONE), NONE);
    Check.due("no house", x.rests(-1, 0), NONE);
    WinterTellers one = Check.coast("h;h;t");
    Check.due("one tale", one.rests(1, NONE), 1);
    Check.due("it", one.rests(1, 0), 0);
    // Heard again the one is worth more, the other less: each pair but one is left by somebody.
    WinterTellers last = Check.coast("h;h;tk1;tk2");
    Check.law(last, "y:n=0?5;y:k=1?9;y:1");
    Check.due("how many", last.rests(0, NONE), 1);
    Check.due("the one that neither leaves", last.rests(0, 0), 10);
    // Each tale is worth more as the second one, and the first always has fewer: nobody stays at it.
    WinterTellers none = Check.coast("h;h;tk1;tk2");
    Check.law(none, "y:n=0?5;y:9");
    Check.due("none", none.rests(0, NONE), 0);
    Check.due("none", none.rests(0, 0), NONE);
  }

  private static void odds() {
    WinterTellers x = Check.coast(COAST);
    Check.due("all stay none", x.odds(0, 0, 100, 0), 1000000000);
    Check.due("the first is sure", x.odds(0, 0, 100, 1), 1000000000);
    Check.due("cut off", x.odds(0, 0, 100, 2), 0);
    Check.due("never cut off", x.odds(0, 0, 0, 13), 1000000000);
    Check.due("no more nights", x.odds(0, 0, 0, 14), 0);
    Check.due("33 of 100", x.odds(0, 0, 33, 2), 670000000);
    Check.due("33 of 100 twice", x.odds(0, 0, 33, 3), 448900000);
    Check.due("33 of 100 six times, cut", x.odds(0, 0, 33, 7), 90458383);
    Check.due("he need not have it", x.odds(2, 2, 1, 2), 990000000);
    Check.due("twenty nights", x.odds(0, 1, 0, 20), 1000000000);
    Check.due("no house", x.odds(3, 0, 0, 0), NONE);
    Check.due("no tale", x.odds(0, 3, 0, 0), NONE);
    Check.due("chance", x.odds(0, 0, 101, 0), NONE);
    Check.due("chance", x.odds(0, 0, -1, 0), NONE);
    Check.due("v", x.odds(0, 0, 0, 21), NONE);
    Check.due("v", x.odds(0, 0, 0, -1), NONE);
    Check.law(x, "y:0");
    Check.due("no nights: none", x.odds(0, 0, 50, 0), 1000000000);
    Check.due("no nights: one", x.odds(0, 0, 0, 1), 0);
  }

  private static void reach() {
    Check.due("two each way", Check.coast("sb2a3;h;h;h;h;h;h;t").reach(), 62);
    Check.due("where he is", Check.coast("sb0a1;h;h;h;t").reach(), 2);
    Check.due("all", Check.coast("sb5;h;h;h;h;h;h;t").reach(), 63);
    Check.due("no coast", new WinterTellers().reach(), NONE);
  }

  private static void shares() {
    WinterTellers x = Check.coast("sm0;h;h;tl3;tl4;tl9");
    Check.due("3 of 16", x.shares(0, 100), 18);
    Check.due("4 of 16", x.shares(1, 100), 25);
    Check.due("9 of 16", x.shares(2, 999), 561);
    Check.due("of nothing", x.shares(2, 0), 0);
    Check.due("of one tale alone", Check.coast("h;h;tl1").shares(0, 7), 7);
    Check.due("only of tales there are", Check.coast("h;h;tl1;tl2").shares(1, 9), 6);
    Check.due("too much", x.shares(0, 1000), NONE);
    Check.due("less", x.shares(0, -1), NONE);
    Check.due("no tale", x.shares(3, 5), NONE);
    Check.due("no tale", x.shares(-1, 5), NONE);
  }

  private static void freshAndWhere() {
    WinterTellers x = Check.coast(COAST);
    Check.due("new", x.fresh(0, 0), 3);
    Check.due("old", x.fresh(0, 1), 4);
    Check.due("new", x.fresh(2, 0), 2);
    Check.due("old", x.fresh(2, 1), 0);
    x.tells(1);
    Check.due("new no more", x.fresh(0, 0), 1);
    x.learns(2);
    Check.due("old no more", x.fresh(0, 1), 0);
    Check.due("no house", x.fresh(3, 0), NONE);
    Check.due("no what", x.fresh(0, 2), NONE);
    Check.due("no what", x.fresh(0, -1), NONE);
    WinterTellers y = Check.coast(COAST);
    Check.due("where", y.where(0, 10), 3);
    Check.due("where", y.where(0, 11), 1);
    Check.due("where", y.where(2, 5), 6);
    Check.due("everywhere", y.where(1, 20), 7);
    Check.due("nowhere", y.where(0, 14), 0);
    Check.due("one night", y.where(2, 1), 7);
    Check.due("out of bounds", y.where(0, 0), NONE);
    Check.due("out of bounds", y.where(0, 21), NONE);
    Check.due("no tale", y.where(3, 1), NONE);
    Check.due("no tale", y.where(-1, 1), NONE);
  }

  private static void rounds(String coast, String law, int tellings, int nights, int bread) {
    WinterTellers x = Check.coast(coast);
    if (!law.isEmpty()) {
      Check.law(x, law);
    }
    Check.due("tellings round " + coast, x.round(0), tellings);
    Check.due("nights round " + coast, x.round(1), nights);
    Check.due("bread round " + coast, x.round(2), bread);
    Check.due("nothing is done", x.count(5) + x.count(9) + x.count(13), 0);
    Check.due("no such what", x.round(3), NONE);
    Check.due("no such what", x.round(-1), NONE);
  }

  private static void round() {
    rounds("sb9;h;h;h;t", "y:1", 5, 5, 5);
    rounds("sb9a2;h;h;h;t", "y:1", 3, 3, 7);
    rounds("sb9a1;h;h;h;t", "y:1", 4, 4, 6);
    rounds("sb9m0;h;h;h;t", "y:1", 0, 0, 5);
    rounds("sb2;h;h;h;t", "y:1", 3, 3, 0);
    rounds("sb0;h;h;h;t", "y:1", 1, 1, 0);
    rounds("sb0;h;h;h;t", "y:3", 5, 15, 1);
    // Put out, one bread less each time, besides one for going.
    rounds("sb5;h;h;h;t", "y:0", 3, 0, 0);
    rounds("sb4;h;h;h;t", "y:0", 3, 0, 0);
    rounds("sb3;h;h;h;t", "y:0", 2, 0, 0);
    rounds("sb9;h;h;h;t", "y:0", 5, 0, 0);
    rounds("sb10;h;h;h;t", "y:0", 5, 0, 1);
    // Heard once more on the way back: 4 there, 4 in the next one, then 3 as the other tale holds still.
    rounds("sb9;h;h;tk4;tk3", "y:n=0?k;y:0", 3, 11, 10);
  }

  private static void most() {
    WinterTellers x = Check.coast("sm6;hk7c4w3;hk5c8w9;hk13c8w9;tl2k5;tl7k1r1;tl7k5;tl1r1");
    int[] due = {1, 0, 1, 1, 0, 10, 5, 0, 0};
    Check.law(x, "y:0");
    for (int i = 0; i < due.length; i++) {
      Check.due("most " + i, x.most(i), due[i]);
    }
    Check.due("no such what", x.most(9), NONE);
    Check.due("no such what", x.most(-1), NONE);
    x.ties(2);
    Check.due("knotted now", x.most(1), 2);
    x.tells(1);
    x.goes(1);
    x.tells(1);
    Check.due("common", x.most(6), 5);
    x.goes(2);
    x.tells(1);
    Check.due("common now", x.most(6), 7);
    Check.law(x, "y:k=2?20;y:c>5&k=1?2;y:w=3?1;y:k-n-3");
    Check.due("all", x.most(7), 1 + 1 + 2 + 2 + 2 + 2);
    Check.due("dullest", x.most(4), 0);
    Check.due("holds", x.most(8), 3);
    WinterTellers y = Check.coast(COAST);
    Check.due("dullest", y.most(4), 2);
    Check.due("all", y.most(7), 13 + 20 + 10 + 20 + 5 + 20);
    Check.law(y, "y:c=0?0;y:3");
    Check.due("dullest", y.most(4), 1);
    Check.due("holds", y.most(8), 2);
    WinterTellers before = Check.coast("h;hc9w9;hc9w9k7;h;t;tl9k9r1;tl9k9r1");
    Check.tell(before, "hk2c1w1;hk3c1w1;tl1k1;tl1k1");
    int[] due2 = {0, 0, 0, 0, 1, 0, 2, 2, 1};
    for (int i = 0; i < due2.length; i++) {
      Check.due("nothing of another coast " + i, before.most(i), due2[i]);
    }
    Check.due("reach", before.reach(), 3);
    WinterTellers none = Check.coast("sm0;h;h;t");
    Check.due("dullest, he has none", none.most(4), 0);
    Check.due("holds, he has none", none.most(8), 0);
    Check.due("no coast", new WinterTellers().most(0), NONE);
  }
}
