/** Promises 38 to 40: images, back, counts. */
public final class ImageTests {
  private static final int NONE = WinterTellers.NONE;

  public static void main(String[] args) {
    images();
    logOfAnImage();
    counts();
    Check.end("ImageTests");
  }

  private static void due(String what, WinterTellers x, int... due) {
    for (int i = 0; i < due.length; i++) {
      Check.due(what + ": count " + (5 + i), x.count(5 + i), due[i]);
    }
  }

  private static void images() {
    WinterTellers x = Check.coast("sb10m1;hk2;h;t;t");
    Check.due("no image", x.back(), NONE);
    Check.due("tells", x.tells(0), 7);
    Check.due("the day", x.image(), 7);
    Check.due("an image is no act", x.count(14), 1);
    x.learns(1);
    x.ties(1);
    Check.law(x, "y:0");
    x.tells(1);
    x.goes(1);
    x.seen(0, 3, true);
    x.whys(4);
    due("as it goes on", x, 11, 1, 3, 7, 7, 1);
    Check.due("back", x.back(), 7);
    due("as it was", x, 7, 0, 1, 12, 7, 0, 4, 1, 1, 0);
    Check.due("heard", x.heard(0, 1), 1);
    Check.due("knots", x.tale(1, 1), 2);
    Check.due("no act", x.undo(), NONE);
    Check.due("the law is none of it", x.count(4), 0);
    Check.due("log", x.log(0, 2), 7);
    x.rest();
    Check.due("undone", x.undo(), 0);
    x.rest();
    Check.due("back again", x.back(), 7);
    x.rest();
    Check.due("another", x.image(), 8);
    x.rest();
    Check.due("that one", x.back(), 8);
    Check.tell(x, "h;h;t");
    Check.due("of another coast", x.back(), NONE);
    Check.due("an image", x.image(), 0);
    x.goes(1);
    Check.due("undone acts leave it", x.undo(), 0);
    Check.due("back", x.back(), 0);
  }

  private static void logOfAnImage() {
    WinterTellers x = Check.coast("sb99;h;h;t;t;t");
    Check.law(x, "y:n");
    for (int i = 0; i < 70; i++) {
      x.tells(i % 3);
    }
    x.image();
    x.goes(1);
    for (int i = 0; i < 110; i++) {
      x.tells(1);
    }
    x.back();
    Check.due("sixty", x.count(13), 60);
    for (int i = 0; i < 60; i++) {
      Check.due("house " + i, x.log(i, 0), 0);
      Check.due("tale " + i, x.log(i, 1), (69 - i) % 3);
      Check.due("nights " + i, x.log(i, 2), Math.min((69 - i) / 3, 20));
    }
    for (int i = 0; i < 40; i++) {
      x.tells(2);
    }
    for (int i = 0; i < 40; i++) {
      x.undo();
    }
    Check.due("the oldest is there again", x.log(59, 1), 10 % 3);
    Check.due("sixty", x.count(13), 60);
  }

  private static void counts() {
    WinterTellers x = Check.coast("sb50;h;h;h;t;t");
    Check.law(x, "y:2-n");
    Check.feed(x, "y:");
    x.whys(3);
    x.tells(0);
    x.tells(0);
    x.tells(0);
    x.goes(2);
    x.seen(0, 0, true);
    x.seen(1, 1, false);
    int[] due = {3, 2, 1, 2, 0, 6, 2, 3, 47, 3, 1, 3, 2, 3, 4};
    for (int i = 0; i < due.length; i++) {
      Check.due("count " + i, x.count(i), due[i]);
    }
    int[] others = {-1, 15, 16, Integer.MAX_VALUE, Integer.MIN_VALUE};
    for (int what : others) {
      Check.due("count " + what, x.count(what), WinterTellers.HIDDEN);
    }
  }
}
