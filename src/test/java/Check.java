/** What the tests share: due answers, texts as calls of feed, and the end of a test. */
final class Check {
  /** The words of the document that are tested just now; empty, where a test names none. */
  static String sentence = "";
  private static int wrong = 0;
  private static int made = 0;

  private Check() {}

  static void due(String what, long got, long want) {
    made++;
    if (got != want) {
      wrong++;
      System.out.println(sentence + what + " answered " + got + ", due is " + want);
    }
  }

  static void due(String what, boolean got, boolean want) {
    due(what, got ? 1 : 0, want ? 1 : 0);
  }

  /** Feeds a text in one or more calls; the answer of the last one. */
  static int feed(WinterTellers x, String text) {
    int answer = x.count(3);
    for (int i = 0; i < text.length(); i += 20) {
      answer = x.feed(word(text, i), word(text, i + 4), word(text, i + 8), word(text, i + 12), word(text, i + 16));
    }
    return answer;
  }

  static int word(String text, int from) {
    int word = 0;
    for (int i = from; i < from + 4; i++) {
      word = word << 8 | (i < text.length() ? text.charAt(i) & 255 : 0);
    }
    return word;
  }

  static int fault(int sort, String text) {
    WinterTellers x = new WinterTellers();
    feed(x, text);
    return x.fault(sort);
  }

  static WinterTellers coast(String text) {
    WinterTellers x = new WinterTellers();
    tell(x, text);
    return x;
  }

  static void tell(WinterTellers x, String text) {
    feed(x, text);
    int fault = x.fault(0);
    if (fault != WinterTellers.NONE || x.text(0) < 2) {
      due("coast " + text, fault, WinterTellers.NONE);
    }
  }

  static void law(WinterTellers x, String text) {
    feed(x, text);
    int fault = x.fault(1);
    int law = x.text(1);
    if (fault != WinterTellers.NONE || !x.law(law)) {
      due("law " + text, fault, WinterTellers.NONE);
    }
  }

  /** 1 if the call throws what the document names, else 0. */
  static int throwsNoSuch(WinterTellers x, int tale, int what) {
    try {
      x.tale(tale, what);
      return 0;
    } catch (java.util.NoSuchElementException e) {
      return e.getClass() == java.util.NoSuchElementException.class ? 1 : 2;
    }
  }

  static void end(String test) {
    System.out.println(test + ": " + made + " answers, " + wrong + " not as due");
    if (wrong != 0 || made == 0) {
      System.exit(1);
    }
  }
}
