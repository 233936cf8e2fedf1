import java.util.ArrayList;
import java.util.List;
import java.util.function.Consumer;
import java.util.function.Supplier;
import java.util.function.ToIntFunction;

/**
 * Two objects made alike, of which only one gets a call that must change nothing: all that can be asked of them then,
 * undoing and going back to the image, too, is held against one another. Looking takes many calls, so each way of
 * looking has twins of its own: none of them is used for more than 512 calls.
 */
final class Twins {
  private static final int NONE = WinterTellers.NONE;

  private Twins() {}

  /** The call answers as told and changes nothing but the status that is named (-1: not even that). */
  static void refused(String call, Supplier<WinterTellers> making, ToIntFunction<WinterTellers> calling, int answer,
      int status) {
    WinterTellers x = making.get();
    int[] due = new int[5];
    for (int i = 0; i < 5; i++) {
      due[i] = x.status(i) + (i == status ? 1 : 0);
    }
    Check.due(call, calling.applyAsInt(x), answer);
    for (int i = 0; i < 5; i++) {
      Check.due(call + ", then status " + i, x.status(i), due[i]);
    }
    same(call, making, calling::applyAsInt);
  }

  static void same(String call, Supplier<WinterTellers> making, Consumer<WinterTellers> calling) {
    List<Looking> ways = List.of(Twins::present, Twins::log, Twins::undone, Twins::back, Twins::tape, Twins::laws, Twins::years);
    for (int way = 0; way < ways.size(); way++) {
      WinterTellers called = making.get();
      WinterTellers left = making.get();
      calling.accept(called);
      List<Integer> got = new ArrayList<>();
      List<Integer> due = new ArrayList<>();
      ways.get(way).look(called, got);
      ways.get(way).look(left, due);
      Check.due(call + " changes nothing, by way " + way + " of looking: " + got + " for " + due, got.equals(due), true);
    }
  }

  private interface Looking {
    void look(WinterTellers x, List<Integer> seen);
  }

  static void present(WinterTellers x, List<Integer> seen) {
    for (int i = 0; i < 15; i++) {
      seen.add(x.count(i));
    }
    int tales = x.count(1);
    for (int i = 0; i < 6; i++) {
      seen.add(x.house(i, 0));
      seen.add(x.house(i, 1));
      seen.add(x.house(i, 2));
      for (int what = 0; what < 4; what++) {
        seen.add(i < tales ? x.tale(i, what) : NONE);
      }
      for (int tale = 0; tale < 6; tale++) {
        seen.add(x.heard(i, tale));
        seen.add(x.nights(i, tale));
      }
    }
    for (int i = -1; i < 6; i++) {
      seen.add(x.told(i));
      seen.add(x.ask(i + 4));
    }
  }

  static void log(WinterTellers x, List<Integer> seen) {
    for (int i = 0; i < 60; i++) {
      for (int what = 0; what < 3; what++) {
        seen.add(x.log(i, what));
      }
    }
  }

  private static void undone(WinterTellers x, List<Integer> seen) {
    int left = x.undo();
    for (int i = 0; i < 41 && left >= 0; i++) {
      for (int what = 5; what < 9; what++) {
        seen.add(x.count(what));
      }
      seen.add(x.count(13));
      left = x.undo();
      seen.add(left);
    }
    seen.add(x.house(0, 0));
    seen.add(x.house(1, 0));
  }

  private static void back(WinterTellers x, List<Integer> seen) {
    seen.add(x.back());
    present(x, seen);
  }

  private static void tape(WinterTellers x, List<Integer> seen) {
    seen.add(x.fault(0));
    seen.add(x.fault(1));
    for (int i = 0; i < 40 && x.count(3) > 30; i++) {
      x.end(x.count(3) - 1);
      seen.add(x.fault(0));
      seen.add(x.fault(1));
    }
    seen.add(x.text(0));
    seen.add(x.text(1));
    present(x, seen);
  }

  private static void laws(WinterTellers x, List<Integer> seen) {
    for (int law = -1; law < 4; law++) {
      seen.add(x.law(law) ? 1 : 0);
      for (int house = 0; house < 6; house++) {
        for (int tale = 0; tale < 6; tale++) {
          seen.add(x.nights(house, tale));
        }
      }
    }
  }

  /** Whys show in years. */
  private static void years(WinterTellers x, List<Integer> seen) {
    seen.add(x.years(30, 12345L));
    present(x, seen);
  }
}
