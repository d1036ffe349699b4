import java.util.List;
import java.util.function.Consumer;
import java.util.function.Function;
import java.util.function.Predicate;
import java.util.function.Supplier;
import java.util.function.ToIntFunction;

/**
 * Two objects that have come to the same state: what is done with the one must change no more than
 * what is done with the other. "A call that is refused changes nothing" is told by a twin with which
 * nothing is done, "nothing happens" at an arrival by one whose message is lost.
 */
final class Twins {
    private final Due due;

    Twins(Due due) {
        this.due = due;
    }

    /** The call answers NONE and changes nothing in the state that scene makes. */
    void none(String name, Supplier<Counted> scene, ToIntFunction<Counted> call) {
        answers(name, scene, call, Steps.NONE);
    }

    /** The call answers false and changes nothing. */
    void isFalse(String name, Supplier<Counted> scene, Predicate<Counted> call) {
        answers(name, scene, x -> call.test(x) ? 1 : 0, 0);
    }

    /** The call has this answer and changes nothing. */
    void answers(String name, Supplier<Counted> scene, ToIntFunction<Counted> call, int answer) {
        due.is(name, call.applyAsInt(scene.get()), answer);
        alike(name, scene, call::applyAsInt, x -> { });
    }

    /** Message i arrives, and nothing happens but that it is under way no more. */
    void nothingHappens(String name, Supplier<Counted> scene, int i) {
        due.is(name, scene.get().deliver(i), true);
        alike(name, scene, x -> x.deliver(i), x -> x.drop(i));
    }

    /** Both lead to the same state. */
    void alike(String name, Supplier<Counted> scene, Consumer<Counted> one, Consumer<Counted> other) {
        alike(name, scene, one, other, Shown::of);
        alike(name, scene, one, other, Next::ofSequencers);
        alike(name, scene, one, other, Next::ofNodes);
        alike(name, scene, one, other, Next::ofReplicas);
    }

    private void alike(String name, Supplier<Counted> scene, Consumer<Counted> one, Consumer<Counted> other,
            Function<Counted, List<String>> then) {
        Counted first = scene.get();
        Counted second = scene.get();
        one.accept(first);
        other.accept(second);
        due.same("after " + name, then.apply(first), then.apply(second));
    }
}
