/** An object about which there is much to lose: acts, a log, an image, something seen, laws, a tape, refusals. */
final class Lively {
  /** Four houses, six tales. Of house 2 he learns the last three; tale 5 holds there 3, 2, 1 nights, then none. */
  static final String COAST = "sb1m7a1o2;hk9c4w5;hk2c7w1;hk56c9w9;hc1;tl5k3r1;tl9k9;t;tk8l2;tr1l7;tk0";

  private Lively() {}

  static WinterTellers make() {
    WinterTellers x = Check.coast(COAST);
    Check.law(x, "y:l+k-n");
    Check.law(x, "y:c=9?20;y:n+k");
    x.law(0);
    x.whys(6);
    x.goes(3);
    x.give(29);
    x.tells(0);
    x.tells(1);
    x.goes(0);
    x.goes(2);
    x.image();
    x.learns(3);
    x.learns(4);
    x.learns(5);
    x.ties(2);
    for (int i = 0; i < 4; i++) {
      x.tells(5);
    }
    x.rest();
    x.give(20);
    x.undo();
    x.tells(6);
    x.give(51);
    x.goes(2);
    x.tells(-1);
    x.undo();
    x.give(1);
    x.seen(0, 5, true);
    x.seen(1, 20, false);
    x.seen(3, 0, true);
    Check.feed(x, "sb5;hk1;h");
    return x;
  }

  /** With this on the tape instead. */
  static WinterTellers with(String tape) {
    WinterTellers x = make();
    x.end(0);
    Check.feed(x, tape);
    return x;
  }
}
