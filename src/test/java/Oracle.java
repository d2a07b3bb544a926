/** Stands for the oracle of the next commit. */
final class Oracle {
}
