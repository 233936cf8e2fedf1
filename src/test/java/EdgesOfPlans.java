import java.util.function.Supplier;

/** The terms' third part, of what he could do and what is worth most: promises 22 to 25, 32 and 34 to 37. */
final class EdgesOfPlans {
  private static final int NONE = WinterTellers.NONE;
  private static final int[] NO_INDEX = {Integer.MIN_VALUE, -7, -1, 6, 7, Integer.MAX_VALUE};
  private static final int[] NOT_0_1 = {Integer.MIN_VALUE, -1, 2, 3, Integer.MAX_VALUE};
  private static final int[] NOT_1_20 = {Integer.MIN_VALUE, -1, 0, 21, 22, Integer.MAX_VALUE};

  private EdgesOfPlans() {}

  static void run() {
    apart();
    daysDoNotMatter();
    best();
    bestRefused();
    two();
    twoByBread();
    twoRefused();
    places();
    placesRefused();
    fewest();
    fewestRefused();
    reach();
    fresh();
    where();
    round();
    roundByBread();
    roundRefused();
    mostOfTales();
    mostOfHouses();
    mostBits();
    mostNights();
    mostRefused();
  }

  static WinterTellers by(String coast, String law) {
    WinterTellers x = Check.coast(coast);
    Check.law(x, law);
    return x;
  }

  private static void apart() {
    Edge.term(3, "(Apart, from as it is now");
    Twins.same("all that is asked apart", Lively::make, x -> {
      for (int house = 0; house < 4; house++) {
        x.best(house, 0);
        x.game(house, 0, 5, 0);
        x.game(house, 3, 3, 1);
        x.rests(house, NONE);
        x.rests(house, 1);
        x.odds(house, 2, 30, 5);
        x.fresh(house, 0);
      }
      x.two(0);
      x.two(1);
      x.places(0);
      x.places(1);
      x.fewest(5);
      x.told(NONE);
      x.told(0);
      x.ask(7);
      x.reach();
      x.shares(2, 900);
      x.where(1, 4);
      x.round(0);
      x.round(2);
      for (int what = 0; what < 9; what++) {
        x.most(what);
      }
    });
    // As it is now: heard, knots, what he has, where he is, bread.
    WinterTellers x = by("sb9m1;hk2;h;t;t", "y:k*2-n");
    Check.due("best", x.best(0, 1), 4);
    x.tells(0);
    Check.due("heard since", x.best(0, 1), 3);
    x.ties(0);
    Check.due("knots since", x.best(0, 1), 5);
    x.learns(1);
    Check.due("of several the lowest", x.best(0, 0), 0);
    x.tells(0);
    x.tells(0);
    x.tells(0);
    Check.due("what he has since", x.best(0, 0), 1);
  }

  private static void daysDoNotMatter() {
    Edge.term(3, "DAYS do not matter.)");
    Supplier<WinterTellers> end = () -> {
      WinterTellers x = EdgesOfActs.onDay(9999, "sb0;h;h;h;h;t;t");
      x.give(50);
      Check.law(x, "y:20");
      return x;
    };
    WinterTellers x = end.get();
    Check.due("tells", x.tells(0), NONE);
    Check.due("goes", x.goes(1), NONE);
    Check.due("best", x.best(0, 1), 20);
    Check.due("two", x.two(1), 40);
    Check.due("two", x.two(0), 0);
    Check.due("places", x.places(1), 40);
    Check.due("reach", x.reach(), 15);
    Check.due("round", x.round(0), 7);
    Check.due("round", x.round(1), 140);
    Check.due("round", x.round(2), 50 + 7 * 6 - 6);
    Check.due("odds", x.odds(0, 0, 0, 20), 1000000000);
    Check.due("where", x.where(0, 20), 15);
    Check.due("all", x.most(7), 160);
    Check.due("a game", x.game(0, 0, 1, 0), 20);
  }

  private static void best() {
    Edge.term(3, "BEST of a HOUSE: the TALE he HAS that has most NIGHTS there (of several the lowest): that; how many.");
    Edge.promise(22, "BEST: the TALE (0), how many (1).");
    String tales = ";tl1;tl2;tl3;tl4;tl5;tl6";
    for (int has = 1; has < 64; has++) {
      WinterTellers x = by("sm" + has + ";h;h" + tales, "y:l");
      int highest = 31 - Integer.numberOfLeadingZeros(has);
      Check.due("most", x.best(1, 0), highest);
      Check.due("how many", x.best(1, 1), highest + 1);
      WinterTellers y = by("sm" + has + ";h;h" + tales, "y:7");
      Check.due("of several the lowest", y.best(0, 0), Integer.numberOfTrailingZeros(has));
      Check.due("how many", y.best(0, 1), 7);
      WinterTellers z = by("sm" + has + ";h;h" + tales, "y:0");
      Check.due("of several without nights the lowest", z.best(0, 0), Integer.numberOfTrailingZeros(has));
      Check.due("none", z.best(0, 1), 0);
    }
    WinterTellers x = by("h;h;tl3;tl6;tl6;tl2;tl6", "y:l");
    Check.due("of several the lowest", x.best(0, 0), 1);
    WinterTellers held = by("h;h;tl3;tl6", "y:l*10");
    Check.due("as they are held at twenty", held.best(0, 0), 0);
    Check.due("twenty", held.best(0, 1), 20);
    WinterTellers houses = by("hk1;hk2;hk3;t;t", "y:9-n*2");
    Check.due("there", houses.best(0, 0), 1);
    Check.due("there", houses.best(1, 0), 0);
    Check.due("there", houses.best(2, 1), 7);
  }

  private static void bestRefused() {
    Edge.promise(22, "NONE: he HAS none");
    for (int what = 0; what < 2; what++) {
      int of = what;
      Twins.refused("he has none", () -> Check.coast("sm0;hk63;h;t;t"), x -> x.best(0, of), NONE, -1);
      Twins.refused("he has none of those there are", () -> Check.coast("sm60;hk63;h;t;t"), x -> x.best(0, of), NONE, -1);
    }
    Edge.promise(22, "no such ones.");
    for (int house : NO_INDEX) {
      Twins.refused("best " + house, Lively::make, x -> x.best(house, 0), NONE, -1);
    }
    Twins.refused("best 4 of four", Lively::make, x -> x.best(4, 1), NONE, -1);
    for (int what : NOT_0_1) {
      Twins.refused("best 0 " + what, Lively::make, x -> x.best(0, what), NONE, -1);
    }
    Twins.refused("no coast", WinterTellers::new, x -> x.best(0, 0), NONE, -1);
  }

  private static void two(String coast, String law, int row, int nights) {
    WinterTellers x = by(coast, law);
    Check.due("two of " + coast + " by " + law, x.two(0), row);
    Check.due("nights by two of " + coast + " by " + law, x.two(1), nights);
  }

  private static void two() {
    Edge.term(3, "TWO: rows of two tellings (four digits: HOUSE, TALE, HOUSE, TALE", "by which NIGHTS are most together "
        + "(of several the least row): the row; how many.");
    Edge.promise(23, "TWO: the row (0), how many (1).");
    two("h;h;t", "y:5", 0, 10);
    two("h;h;t", "y:0", 0, 0);
    two("sm2;h;h;t;t", "y:0", 101, 0);
    two("sb0m2a1;h;h;t;t", "y:0", 1111, 0);
    two("sb99;hc1;hc2;hc3;hc4;hc5;hc6;tk1;tk2;tk3;tk4;tk5;tk6", "y:c*10+k", 1010, 40);
    two("sb99;hc1;hc2;hc3;hc4;hc5;hc6;tk1;tk2;tk3;tk4;tk5;tk6", "y:c+k", 5555, 24);
    two("sb99;hc1;hc2;hc3;hc4;hc5;hc6;tk1;tk2;tk3;tk4;tk5;tk6", "y:c+k-n*9", 4555, 23);
    two("sb99;hc1;hc2;tk1;tk2", "y:c=2&k=2?9;y:c=1&k=1?8;y:0", 1111, 18);
    two("sb99;hc1;hc2;tk1;tk2", "y:n>0?0;y:c=2&k=2?9;y:c=1&k=1?8;y:0", 11, 17);
    // The same one twice in a house is heard once more by then, which may be more or less.
    two("sb0;h;h;t", "y:2-n", 0, 3);
    two("sb0;h;h;t", "y:5+n*4", 0, 14);
    two("sb0;hk1;h;t", "y:n=1?3;y:n=2?8;y:0", 0, 11);
    two("sb9;h;h;t", "y:5-n*4", 10, 10);
    two("sb9;h;h;t;t", "y:5-n*4", 1, 10);
    WinterTellers most = by("hk1;h;t", "y:n=99?5;y:0");
    for (int i = 0; i < 98; i++) {
      most.tells(0);
    }
    Check.due("heard", most.heard(0, 0), 99);
    Check.due("ninety-nine is not heard more often", most.two(1), 10);
    Check.due("that", most.two(0), 0);
  }

  private static void twoByBread() {
    Edge.term(3, "he GOES to each, if he is not there, BREAD must do for it ahead of each, what he is given for NIGHTS counts)");
    // House 5 alone is worth something, one night: he tells there twice, if bread does for the way.
    for (int at = 0; at < 6; at++) {
      for (int bread = 0; bread <= 6; bread++) {
        boolean does = bread >= 5 - at;
        int least = Math.max(0, at - bread);
        two("sb" + bread + "a" + at + ";h;h;h;h;h;hc9;t", "y:c=9?1;y:0", does ? 5050 : least * 1010, does ? 2 : 0);
      }
    }
    // From one to two nights where he is bring nothing, three to five the way to the next house, six the one behind it ..
    for (int nights = 1; nights <= 20; nights++) {
      int reached = Math.min(nights / 3, 5);
      int there = reached == 0 ? 0 : 14 + reached;
      boolean stays = nights >= there;
      two("sb0;hc1;hc2;hc3;hc4;hc5;hc6;t", "y:c=1?" + nights + ";y:c+13", stays ? 0 : reached * 10,
          nights + Math.max(nights, there));
    }
    // Ahead of the second, too: what is left by the first way is not enough for the second.
    two("sb1;h;hc9;hc8;t", "y:c=9?2;y:c=8?9;y:0", 1010, 4);
    two("sb2;h;hc9;hc8;t", "y:c=9&n=0?2;y:c=8&n=0?9;y:0", 1020, 11);
    two("sb3;h;hc9;h;hc8;t", "y:c=9&n=0?2;y:c=8&n=0?9;y:0", 1030, 11);
    two("sb2;h;hc9;h;hc8;t", "y:c=9&n=0?2;y:c=8&n=0?9;y:0", 10, 2);
    two("sb2;h;hc9;h;hc8;t", "y:c=9&n=0?3;y:c=8&n=0?9;y:0", 1030, 12);
    // Put out he has one bread less (0 at least).
    two("sb1;h;hc9;t", "y:c=9&n=0?5;y:0", 1000, 5);
    two("sb2;h;hc9;t", "y:c=9&n=0?5;y:0", 10, 5);
    two("sb0;h;hc9;t", "y:c=9&n=0?5;y:0", 0, 0);
  }

  private static void twoRefused() {
    Edge.promise(23, "NONE: there is none");
    Twins.refused("two", () -> Check.coast("sm0;hk63;h;t;t"), x -> x.two(0), NONE, -1);
    Twins.refused("two", () -> Check.coast("sm60;hk63;h;t;t"), x -> x.two(1), NONE, -1);
    Edge.promise(23, "no COAST");
    Twins.refused("two", WinterTellers::new, x -> x.two(0), NONE, -1);
    Twins.refused("two", WinterTellers::new, x -> x.two(1), NONE, -1);
    Edge.promise(23, "no such what.");
    for (int what : NOT_0_1) {
      Twins.refused("two " + what, Lively::make, x -> x.two(what), NONE, -1);
    }
  }

  private static void places(String coast, String law, int row, int nights) {
    WinterTellers x = by(coast, law);
    Check.due("places of " + coast + " by " + law, x.places(0), row);
    Check.due("nights by places of " + coast + " by " + law, x.places(1), nights);
  }

  private static void places() {
    Edge.term(3, "PLACES: rows of digits by HOUSES (which TALE he HAS is told there, each in one HOUSE at most, 9 none; the first the "
        + "highest) by which NIGHTS are most together (each as now; of several the least row): the row; how many.");
    Edge.promise(24, "PLACES: the row (0), how many (1).");
    String six = "hc1;hc2;hc3;hc4;hc5;hc6;tk1;tk2;tk3;tk4;tk5;tk6";
    places("sb0;" + six, "y:1", 12345, 6);
    places("sb0;" + six, "y:0", 12345, 0);
    places(six, "y:c=k?9;y:1", 12345, 54);
    places(six, "y:c+k=7?9;y:1", 543210, 54);
    places("sm0;" + six, "y:1", 999999, 0);
    places("sm32;" + six, "y:1", 599999, 1);
    places("sm32;" + six, "y:0", 599999, 0);
    places("sm32;" + six, "y:c", 999995, 6);
    places("sm33;" + six, "y:c", 999905, 11);
    places("sm33;" + six, "y:c=4?5;y:c=2?5;y:0", 909599, 10);
    places("h;h;t", "y:1", 9, 1);
    places("h;h;t;t;t;t;t;t", "y:k", 1, 4);
    places("h;h;tk1;tk2;tk3;tk4;tk5;tk6", "y:k", 45, 11);
    places("h;h;h;tk1;tk2", "y:k", 19, 3);
    // Each as now: a second telling elsewhere is none the less for it, nor is bread asked for.
    places("sb0;hk1;h;h;t;t", "y:5-n*5", 109, 10);
    places("sb0;hk3;hk3;h;t;t", "y:n=1?0;y:5", 91, 5);
    places("sb0a1;h;hk63;h;h;h;h;t", "y:20", 99999, 20);
    // A smaller coast has nothing of the larger one that was asked about ahead of it.
    WinterTellers x = by(six, "y:c+k");
    for (int houses = 5; houses >= 2; houses--) {
      x.places(0);
      Check.tell(x, "s" + ";hc0".repeat(houses) + ";tk1".repeat(houses));
      Check.due("row of " + houses, x.places(0), 12345 / (int) Math.pow(10, 6 - houses));
      Check.due("nights of " + houses, x.places(1), houses);
    }
  }

  private static void placesRefused() {
    Edge.promise(24, "NONE: no COAST");
    Twins.refused("places", WinterTellers::new, x -> x.places(0), NONE, -1);
    Twins.refused("places", WinterTellers::new, x -> x.places(1), NONE, -1);
    Edge.promise(24, "no such what.");
    for (int what : NOT_0_1) {
      Twins.refused("places " + what, Lively::make, x -> x.places(what), NONE, -1);
    }
  }

  private static void fewest() {
    Edge.term(3, "FEWEST for v (1 .. 20): the fewest TALES (bits, he HAS them or not; of several the least) so that in each HOUSE one of "
        + "them at least has v NIGHTS or more.");
    Edge.promise(25, "FEWEST, as bits.");
    for (int nights = 0; nights <= 20; nights++) {
      WinterTellers x = by("sm0;h;h;t;t", "y:" + nights);
      for (int v = 1; v <= 20; v++) {
        Check.due("fewest for " + v + " of " + nights, x.fewest(v), v <= nights ? 1 : NONE);
      }
    }
    String six = "sm0;hc1;hc2;hc3;hc4;hc5;hc6;tk1;tk2;tk3;tk4;tk5;tk6";
    Check.due("all six", by(six, "y:c=k?5;y:4").fewest(5), 63);
    Check.due("one for all", by(six, "y:c=k?5;y:4").fewest(4), 1);
    Check.due("the last for all", by(six, "y:c=k?5;y:k=6?6;y:4").fewest(5), 32);
    Check.due("all but one house", by(six, "y:c=6?4;y:5").fewest(5), NONE);
    Check.due("two", by(six, "y:k=1&c<4?5;y:k=2&c>3?5;y:4").fewest(5), 3);
    Check.due("two, of several the least", by(six, "y:k=1&c<4?5;y:k>1&c>3?5;y:4").fewest(5), 3);
    Check.due("two instead of three", by(six, "y:k<4&c=k*2?5;y:k<4&c=k*2-1?5;y:k=5&c<4?5;y:k=6&c>3?5;y:4").fewest(5), 48);
    Check.due("three", by(six, "y:k<4&c=k*2?5;y:k<4&c=k*2-1?5;y:4").fewest(5), 7);
    WinterTellers now = by("sb9m1;h;h;t;t", "y:5-n*5");
    Check.due("as now", now.fewest(5), 1);
    now.tells(0);
    Check.due("heard since", now.fewest(5), 2);
  }

  private static void fewestRefused() {
    Edge.promise(25, "NONE: by none");
    Twins.refused("by none", () -> by("h;h;t", "y:4"), x -> x.fewest(5), NONE, -1);
    Edge.promise(25, "no COAST");
    Twins.refused("no coast", WinterTellers::new, x -> x.fewest(1), NONE, -1);
    Edge.promise(25, "out of bounds.");
    for (int v : NOT_1_20) {
      Twins.refused("fewest " + v, Lively::make, x -> x.fewest(v), NONE, -1);
      Twins.refused("fewest " + v, () -> by("h;h;t", "y:20"), x -> x.fewest(v), NONE, -1);
    }
    Check.due("twenty", by("h;h;t", "y:20").fewest(20), 1);
  }

  private static void reach() {
    Edge.term(3, "REACH: HOUSES (bits) he could GO to at once (where he is, too).");
    Edge.promise(32, "REACH, as bits.");
    for (int houses = 2; houses <= 6; houses++) {
      for (int at = 0; at < houses; at++) {
        for (int bread = 0; bread <= 6; bread++) {
          WinterTellers x = Check.coast("sb" + bread + "a" + at + ";h".repeat(houses) + ";t");
          int due = 0;
          for (int house = Math.max(0, at - bread); house <= Math.min(houses - 1, at + bread); house++) {
            due |= 1 << house;
          }
          Check.due("reach of " + bread + " from " + at, x.reach(), due);
        }
      }
    }
    Edge.promise(32, "NONE: no COAST.");
    Twins.refused("reach", WinterTellers::new, WinterTellers::reach, NONE, -1);
  }

  private static void fresh() {
    Edge.term(3, "NEW in a HOUSE: TALES (bits) he HAS that were not HEARD there; OLD: those that were HEARD there and he has not.");
    Edge.promise(34, "NEW (0), OLD (1), as bits.");
    int[] sets = {0, 1, 21, 32, 42, 63};
    for (int has : sets) {
      for (int known : sets) {
        WinterTellers x = Check.coast("sm" + has + ";h;hk" + known + ";t;t;t;t;t;t");
        Check.due("new", x.fresh(1, 0), has & ~known);
        Check.due("old", x.fresh(1, 1), known & ~has);
        Check.due("new where nothing is heard", x.fresh(0, 0), has);
        Check.due("old where nothing is heard", x.fresh(0, 1), 0);
      }
    }
    Edge.promise(34, "NONE: no such ones.");
    for (int house : NO_INDEX) {
      Twins.refused("fresh " + house, Lively::make, x -> x.fresh(house, 0), NONE, -1);
    }
    Twins.refused("fresh 4 of four", Lively::make, x -> x.fresh(4, 1), NONE, -1);
    for (int what : NOT_0_1) {
      Twins.refused("fresh 0 " + what, Lively::make, x -> x.fresh(0, what), NONE, -1);
    }
    Twins.refused("no coast", WinterTellers::new, x -> x.fresh(0, 0), NONE, -1);
  }

  private static void where() {
    Edge.term(3, "WHERE a TALE has v (1 .. 20) NIGHTS or more: HOUSES (bits).");
    Edge.promise(35, "WHERE, as bits.");
    WinterTellers x = by("sm0;hc0;hc1;hc2;hc3;hc4;hc5;tk0;tk4", "y:c*5-k");
    int[] first = {0, 5, 10, 15, 20, 20};
    int[] second = {0, 1, 6, 11, 16, 20};
    for (int v = 1; v <= 20; v++) {
      int due = 0;
      int other = 0;
      for (int house = 0; house < 6; house++) {
        due |= first[house] >= v ? 1 << house : 0;
        other |= second[house] >= v ? 1 << house : 0;
      }
      Check.due("where 0 has " + v, x.where(0, v), due);
      Check.due("where 1 has " + v, x.where(1, v), other);
    }
    Check.due("nowhere", by("h;h;t", "y:0").where(0, 1), 0);
    Edge.promise(35, "NONE: no such TALE");
    for (int tale : NO_INDEX) {
      Twins.refused("where " + tale, Lively::make, y -> y.where(tale, 1), NONE, -1);
    }
    Twins.refused("where 1 of one", () -> Check.coast("h;h;t"), y -> y.where(1, 1), NONE, -1);
    Twins.refused("no coast", WinterTellers::new, y -> y.where(0, 1), NONE, -1);
    Edge.promise(35, "out of bounds.");
    for (int v : NOT_1_20) {
      Twins.refused("where 0 " + v, Lively::make, y -> y.where(0, v), NONE, -1);
    }
  }

  private static void round(String coast, String law, int told, int nights, int bread) {
    WinterTellers x = by(coast, law);
    String what = "round of " + coast + " by " + law;
    Check.due("houses of " + what, x.round(0), told);
    Check.due("nights of " + what, x.round(1), nights);
    Check.due("bread of " + what, x.round(2), bread);
  }

  private static void round() {
    Edge.term(3, "ROUND: he TELLS the BEST one where he is (if he HAS any), GOES to the next HOUSE (by numbers, up to the last; from there, "
        + "from one to the next, down to 0; not up, if he is at the last), TELLS the BEST one there as it is then, and so on, up to 0",
        ": in how many HOUSES he TOLD one (a HOUSE as often as he did), NIGHTS, BREAD then.");
    Edge.promise(36, "ROUND: in how many (0), NIGHTS (1), BREAD (2).");
    for (int houses = 2; houses <= 6; houses++) {
      for (int at = 0; at < houses; at++) {
        int ways = 2 * (houses - 1) - at;
        String coast = "sb50a" + at + ";h".repeat(houses) + ";t";
        round(coast, "y:1", ways + 1, ways + 1, 50 - ways);
        round("sb50m0a" + at + ";h".repeat(houses) + ";t", "y:1", 0, 0, 50 - ways);
        round(coast, "y:3", ways + 1, 3 * ways + 3, 51);
      }
    }
    // As it is then: what he told on the way up is heard on the way down.
    round("sb50;h;h;h;t", "y:n=0?5;y:2", 5, 5 + 5 + 5 + 2 + 2, 50 + 1 + 1 + 1 - 4);
    round("sb50;h;h;h;t;t", "y:n=0?5;y:2", 5, 25, 50 + 5 - 4);
    round("sb50;h;h;h;tk7;tk4", "y:n=0?k;y:1", 5, 7 + 7 + 7 + 4 + 4, 50 + 2 + 2 + 2 + 1 + 1 - 4);
    round("sb50m2;h;h;tk7;tk4", "y:n=0?k;y:1", 3, 4 + 4 + 1, 50 + 1 + 1 - 2);
    round("sb50;hk1;hk1;t", "y:n*3", 3, 3 + 3 + 6, 50 + 1 + 1 + 2 - 2);
    WinterTellers most = by("sb50;hk1;h;t", "y:n=99?5;y:1");
    for (int i = 0; i < 98; i++) {
      most.tells(0);
    }
    Check.due("ninety-nine is not heard more often", most.round(1), 5 + 1 + 5);
  }

  private static void roundByBread() {
    Edge.term(3, "or as long as BREAD does for GOING");
    for (int bread = 0; bread <= 12; bread++) {
      int ways = Math.min(bread, 10);
      round("sb" + bread + ";h;h;h;h;h;h;t", "y:1", ways + 1, ways + 1, bread - ways);
      round("sb" + bread + "m0;h;h;h;h;h;h;t", "y:1", 0, 0, bread - ways);
      // Three nights feed him for each way.
      round("sb" + bread + ";h;h;h;h;h;h;t", "y:3", 11, 33, bread + 1);
      // Put out he has one less, 0 at least, besides one for each way.
      int out = Math.min(bread / 2, 10);
      round("sb" + bread + ";h;h;h;h;h;h;t", "y:0", out + 1, 0, Math.max(0, bread - 2 * out - 1));
    }
    WinterTellers rich = by("sb99;h;h;t", "y:20");
    for (int i = 0; i < 18; i++) {
      rich.give(50);
    }
    Check.due("bread", rich.count(8), 999);
    Check.due("999 at most", rich.round(2), 999);
    WinterTellers less = by("sb99;h;h;t", "y:n=0?20;y:1");
    for (int i = 0; i < 18; i++) {
      less.give(50);
    }
    // 999, 998, 999, 998, and nothing for one night.
    Check.due("999 at most ahead of each way", less.round(2), 998);
  }

  private static void roundRefused() {
    Edge.promise(36, "NONE: no COAST");
    for (int what = 0; what < 3; what++) {
      int of = what;
      Twins.refused("round " + what, WinterTellers::new, x -> x.round(of), NONE, -1);
    }
    Edge.promise(36, "no such what.");
    for (int what : new int[] {Integer.MIN_VALUE, -1, 3, 4, Integer.MAX_VALUE}) {
      Twins.refused("round " + what, Lively::make, x -> x.round(what), NONE, -1);
    }
  }

  private static void most(String coast, String law, int what, int due) {
    Check.due("most " + what + " of " + coast + " by " + law, by(coast, law).most(what), due);
  }

  private static void mostOfTales() {
    Edge.term(3, "LONGEST, KNOTTED (most KNOTS): the TALE");
    Edge.promise(37, "LONGEST (0), KNOTTED (1)");
    for (int tale = 0; tale < 6; tale++) {
      String tales = ";tl8k8".repeat(tale) + ";tl9k9" + ";tl9k9".repeat(5 - tale);
      Check.due("longest", Check.coast("sm0;h;h" + tales).most(0), tale);
      Check.due("most knots", Check.coast("sm0;h;h" + tales).most(1), tale);
    }
    Check.due("the only one", Check.coast("h;h;tl1k0").most(0), 0);
    Check.due("the only one", Check.coast("h;h;tl1k0").most(1), 0);
    WinterTellers x = Check.coast("h;h;tk3;tk3");
    x.ties(1);
    Check.due("knots now", x.most(1), 1);
    x.undo();
    Check.due("of several the lowest", x.most(1), 0);
  }

  private static void mostOfHouses() {
    Edge.term(3, "CURIOUS, WARMEST: the HOUSE; DULLEST: the HOUSE where all he HAS have the fewest NIGHTS together (of several the lowest, "
        + "all).");
    Edge.promise(37, "CURIOUS (2), WARMEST (3), DULLEST (4)");
    for (int house = 0; house < 6; house++) {
      String houses = ";hc8w0".repeat(house) + ";hc9w1" + ";hc9w1".repeat(5 - house);
      Check.due("most curious", Check.coast("s" + houses + ";t").most(2), house);
      Check.due("warmest", Check.coast("s" + houses + ";t").most(3), house);
      most("s" + houses + ";t;t", "y:c=9?1;y:2", 4, house);
    }
    most("h;h;t", "y:5", 4, 0);
    most("sm0;hk1;h;t", "y:5", 4, 0);
    most("sm1;hk2;hk1;t;t", "y:5-n", 4, 1);
    most("sm2;hk2;hk1;t;t", "y:5-n", 4, 0);
    // Together: 3 and 3 are fewer than 1 and 6.
    most("hk3;hk1;t;tk6", "y:n=1&k=6?3;y:n=0&k=6?6;y:k=2&c=3?3;y:1", 4, 0);
    most("hk1;h;t;t", "y:n=1?20;y:9", 4, 1);
    most("hk1;h;t;t", "y:n=1?30;y:9", 4, 1);
    most("hk1;h;t;t", "y:n=1?0-30;y:9", 4, 0);
  }

  private static void mostBits() {
    Edge.term(3, "TRUE: TALES (bits). COMMON: TALES (bits) HEARD in each HOUSE.");
    Edge.promise(37, "TRUE (5, bits), COMMON (6, bits)");
    for (int bits = 0; bits < 64; bits++) {
      StringBuilder tales = new StringBuilder();
      for (int tale = 0; tale < 6; tale++) {
        tales.append(";tr").append(bits >> tale & 1);
      }
      Check.due("true", Check.coast("sm0;h;h" + tales).most(5), bits);
      Check.due("common", Check.coast("sm0;hk63;hk" + bits + ";hk63" + tales).most(6), bits);
      Check.due("common", Check.coast("sm63;hk" + bits + ";h;hk63" + tales).most(6), 0);
      Check.due("common", Check.coast("sm63;hk" + bits + ";hk63" + tales).most(6), bits);
      Check.due("common", Check.coast("hk63;hk63;hk63;hk63;hk63;hk" + bits + tales).most(6), bits);
    }
    Check.due("of two that there are", Check.coast("hk63;hk63;t;tr1").most(6), 3);
    Check.due("of two that there are", Check.coast("hk63;hk63;t;tr1").most(5), 2);
    WinterTellers x = Check.coast("hk1;h;t");
    Check.due("not in each", x.most(6), 0);
    x.goes(1);
    x.tells(0);
    Check.due("in each", x.most(6), 1);
  }

  private static void mostNights() {
    Edge.term(3, "ALL: NIGHTS together of all he HAS in all HOUSES. HOLDS: how many HOUSES there are where something he HAS has NIGHTS.");
    Edge.promise(37, "ALL (7), HOLDS (8).");
    most("h;h;h;h;h;h;t;t;t;t;t;t", "y:20", 7, 720);
    most("h;h;h;h;h;h;t;t;t;t;t;t", "y:99", 7, 720);
    most("h;h;h;h;h;h;t;t;t;t;t;t", "y:0-9", 7, 0);
    most("sm0;h;h;t", "y:20", 7, 0);
    most("sm5;hc1;hc2;h;tk1;tk2;tk3", "y:c*k", 7, 1 + 3 + 2 + 6 + 3 + 9);
    most("h;h;h;h;h;h;t;t;t;t;t;t", "y:1", 8, 6);
    most("h;h;h;h;h;h;t;t;t;t;t;t", "y:0", 8, 0);
    most("sm0;h;h;t", "y:20", 8, 0);
    most("sm2;hk1;hk2;hk3;t;t", "y:n", 8, 2);
    most("sm1;hk1;hk2;hk2;t;t", "y:n", 8, 1);
    most("hk1;h;h;h;h;hk1;t", "y:1-n", 8, 4);
    most("h;h;hc9;h;t;t", "y:c=9?1;y:0", 8, 1);
  }

  private static void mostRefused() {
    Edge.promise(37, "NONE: no COAST");
    for (int what = 0; what < 9; what++) {
      int of = what;
      Twins.refused("most " + what, WinterTellers::new, x -> x.most(of), NONE, -1);
    }
    Edge.promise(37, "no such what.");
    for (int what : new int[] {Integer.MIN_VALUE, -1, 9, 10, Integer.MAX_VALUE}) {
      Twins.refused("most " + what, Lively::make, x -> x.most(what), NONE, -1);
    }
  }
}
